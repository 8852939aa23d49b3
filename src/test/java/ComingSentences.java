import java.util.Arrays;

// The terms of what comes, what was measured, what may be undone and what was refused: one test for each sentence,
// or each edge of it.
final class ComingSentences extends Boundary {
    // a plain team of 1 for season 0: one week more from season 1 by each odd turn
    private static YearStretch slow(int weeksOfSeason1) {
        YearStretch x = new YearStretch();
        x.weeks(1, weeksOfSeason1);
        x.team(0, 1, 0);
        return x;
    }

    // ---- what comes

    @Sentence(promise = {15, 16, 17, 18, 19, 20, 21, 22, 23, 24, 27, 28, 29, 31}, says = "(Nothing is changed by these.)")
    static void nothingIsChangedByAsking() {
        YearStretch x = ground();
        x.then(60, 7);
        x.folded(60);
        x.done(60);
        x.when(0);
        x.when(-1);
        x.hands(20);
        x.pegIt(7, 20);
        x.choose(0, 1, 6);
        x.due(800);
        x.age(255, 60);
        x.again();
        x.is(1);
        x.next(1, 20);
        x.wants(1);
        x.years(999999, 60, 50);
        dueStatus(x, "all asked", 0, 0, 0);
        dueSame("all asked", x, ground());
    }

    @Sentence(promise = 15, says = "THEN: WEEKS of a SEASON behind m TURNS (0 .. 60);")
    static void thenBehindNoneAnd60Turns() {
        YearStretch x = slow(60);
        due("then(0, 0)", x.then(0, 0), 7);
        due("then(1, 0)", x.then(1, 0), 7);
        due("then(2, 0)", x.then(2, 0), 8);
        due("then(59, 0)", x.then(59, 0), 36);
        due("then(60, 0)", x.then(60, 0), 37);
        due("then(60, 1)", x.then(60, 1), 30);
        due("then(61, 0)", x.then(61, 0), BAD);
        due("then(-1, 0)", x.then(-1, 0), BAD);
    }

    @Sentence(promise = 15, says = "THEN: WEEKS of a SEASON behind m TURNS (0 .. 60);")
    static void thenGoesOnFromTheTurnThatItIs() {
        YearStretch x = slow(60);
        x.turn(1);
        due("then(1, 0)", x.then(1, 0), 8);
        due("then(60, 0)", x.then(60, 0), 37);
        due("then(0, 7)", x.then(0, 7), 7);
        x.turn(60);
        due("then(0, 0)", x.then(0, 0), 37);
        due("then(60, 0)", x.then(60, 0), 67);
    }

    @Sentence(promise = 16, says = "FOLDED SEASONS (bits) then.")
    static void foldedSeasonsFromNoneToAll() {
        YearStretch x = new YearStretch();
        due("none", x.folded(0), 0);
        x.weeks(0, 0);
        due("the first", x.folded(0), 1);
        x.weeks(7, 0);
        due("the first and the last", x.folded(60), 129);
        for (int s = 1; s < 7; s++) {
            x.weeks(s, 0);
        }
        due("all", x.folded(0), 255);
        due("all", x.folded(60), 255);
    }

    @Sentence(promise = 16, says = "FOLDED SEASONS (bits) then.")
    static void foldedBehindTheVeryTurn() {
        YearStretch x = slow(30);
        due("behind 59", x.folded(59), 0);
        due("behind 60", x.folded(60), 2);
        due("behind 61", x.folded(61), BAD);
        x.weeks(0, 0);
        due("now", x.folded(0), 1);
        due("behind 1", x.folded(1), 1);
        due("behind 2", x.folded(2), 0);
    }

    @Sentence(promise = 17, says = "WORKS DONE (bits) behind m TURNS;")
    static void worksDoneFromNoneToSix() {
        YearStretch x = slow(60);
        due("no works", x.done(0), 0);
        due("no works", x.done(60), 0);
        int[] weeks = {7, 8, 36, 37, 38, 60};
        for (int n : weeks) {
            x.work(0, n);
        }
        due("done(0)", x.done(0), 1);
        due("done(1)", x.done(1), 1);
        due("done(2)", x.done(2), 3);
        due("done(59)", x.done(59), 7);
        due("done(60)", x.done(60), 15);
        x.weeks(0, 60);
        due("all six", x.done(0), 63);
        x.weeks(0, 59);
        due("but the last", x.done(0), 31);
    }

    @Sentence(promise = 18, says = "WHEN: in how many TURNS (0 .. 60) a WORK is DONE first;")
    static void whenIsFromNowTo60() {
        YearStretch x = slow(60);
        int[][] rows = {{7, 0}, {8, 2}, {36, 58}, {37, 60}, {38, NONE}};
        for (int i = 0; i < rows.length; i++) {
            x.work(0, rows[i][0]);
            due("a work of " + rows[i][0], x.when(i), rows[i][1]);
        }
        x.turn(1);
        // pulled in turns 1, 3, ..: the 30th week comes behind 59, the 31st behind 61
        due("a work of 37 behind the first turn", x.when(3), 59);
        due("a work of 38 behind the first turn", x.when(4), NONE);
        x.turn(1);
        due("a work of 38 behind the second turn", x.when(4), 60);
    }

    @Sentence(promise = 18, says = "WHEN: in how many TURNS (0 .. 60) a WORK is DONE first;")
    static void whenIsTheFirstTimeThoughItPasses() {
        YearStretch x = new YearStretch();
        x.team(0, 2, 2);
        x.team(0, 2, 1);
        // season 1: 7 - 2 + 2, then (2 + 2) 7 + 2; season 0: 7, 5, 5, 3
        x.work(0, 7);
        x.work(1, 9);
        due("done now, never again", x.when(0), 0);
        due("done behind 2", x.when(1), 2);
        x.valley();
        x.peg(1);
        x.team(0, 2, 1);
        x.team(0, 2, 0);
        x.work(1, 9);
        // there and back: season 1 has 9 behind 1, 3, 5, ..
        due("done behind 1, not behind 2", x.when(0), 1);
        due("not behind 60", x.done(60), 0);
    }

    @Sentence(promise = 18, says = "ALL: in how many all are at once; none.")
    static void allAtOnce() {
        YearStretch x = slow(60);
        due("no works: at once", x.when(NONE), 0);
        x.work(0, 37);
        due("one in 60", x.when(NONE), 60);
        x.work(1, 30);
        due("both in 60", x.when(NONE), 60);
        x.work(1, 31);
        due("done each, never at once", x.when(NONE), NONE);
        due("each by itself", x.when(0), 60);
        due("each by itself", x.when(2), 0);
        x.idle();
        x.work(0, 38);
        due("in 62", x.when(NONE), NONE);
    }

    @Sentence(promise = 18, says = "ALL: in how many all are at once; none.")
    static void allSixAtOnce() {
        YearStretch x = slow(60);
        for (int n = 1; n <= 5; n++) {
            x.work(n + 1, 7);
        }
        x.work(0, 7);
        due("all six now", x.when(NONE), 0);
        x.weeks(0, 6);
        due("the last of six in 2", x.when(NONE), 2);
        x.weeks(2, 6);
        due("the first of six never", x.when(NONE), NONE);
    }

    @Sentence(promise = 19, says = "HANDS for m TURNS (0 .. 20): the fewest TEAMS (bits; of like ones the least)")
    static void handsForNoneAnd20Turns() {
        YearStretch x = slow(60);
        x.work(0, 17);
        due("hands(19): turns 0 to 18", x.hands(19), NONE);
        due("hands(20): turns 0 to 19", x.hands(20), 1);
        due("hands(0)", x.hands(0), NONE);
        due("hands(21)", x.hands(21), BAD);
        due("hands(-1)", x.hands(-1), BAD);
        x.weeks(0, 17);
        due("done without any", x.hands(0), 0);
        due("done without any", x.hands(20), 0);
    }

    @Sentence(promise = 19, says = "HANDS for m TURNS (0 .. 20): the fewest TEAMS (bits; of like ones the least)")
    static void handsOfNoTeamAndNoWork() {
        YearStretch x = new YearStretch();
        due("no team, no work", x.hands(0), 0);
        due("no team, no work", x.hands(20), 0);
        x.work(3, 7);
        due("no team, a work that is done", x.hands(20), 0);
        x.work(3, 8);
        due("no team, a work that is not", x.hands(20), NONE);
        x.idle();
        x.team(0, 9, 3);
        due("a team, no work", x.hands(20), 0);
    }

    @Sentence(promise = 19, says = "HANDS for m TURNS (0 .. 20): the fewest TEAMS (bits; of like ones the least)")
    static void handsAreTheFewestThoughTheirBitsAreMore() {
        YearStretch x = new YearStretch();
        x.team(0, 2, 3);
        x.team(0, 2, 3);
        x.team(0, 4, 3);
        x.work(3, 11);
        due("the third alone, not the first two", x.hands(1), 4);
        x.team(0, 4, 3);
        due("of like ones the least", x.hands(1), 4);
        x.idle();
        x.work(3, 13);
        due("of pairs of 6 the least", x.hands(1), 5);
    }

    @Sentence(promise = 19, says = "HANDS for m TURNS (0 .. 20): the fewest TEAMS (bits; of like ones the least)")
    static void handsOfAllSix() {
        YearStretch x = new YearStretch();
        for (int i = 0; i < 6; i++) {
            x.team(0, 1, 3);
        }
        x.work(3, 13);
        due("all six", x.hands(1), 63);
        x.work(3, 14);
        due("not even six", x.hands(1), NONE);
        x.idle();
        x.work(3, 8);
        due("the first of six", x.hands(1), 1);
        x.peg(2);
        due("none by an even turn behind a peg", x.hands(1), NONE);
    }

    @Sentence(promise = 19, says = "who, pulling alone (all others resting), bring it about that all WORKS are DONE behind them; none.")
    static void handsPullWhileTheOthersRest() {
        YearStretch x = new YearStretch();
        x.team(0, 9, 4);
        x.team(0, 2, 3);
        x.work(3, 9);
        due("with both the work is not done", x.done(1), 0);
        due("the second alone", x.hands(1), 2);
        x.idle();
        x.work(3, 7);
        due("with both it is not done", x.done(1), 0);
        due("none at all", x.hands(1), 0);
    }

    @Sentence(promise = 19, says = "bring it about that all WORKS are DONE behind them; none.")
    static void handsAreAskedBehindTheLastTurn() {
        YearStretch x = new YearStretch();
        x.weeks(4, 0);
        x.team(0, 3, 4);
        x.team(0, 3, 3);
        x.work(4, 3);
        x.work(3, 4);
        due("behind 1: both have as many", x.hands(1), 1);
        // turn 1: from 5 to 4
        due("behind 2: season 4 has 6", x.hands(2), 1);
        x.work(4, 4);
        due("behind 1: too few for one of three", x.hands(1), NONE);
        due("behind 2: all", x.hands(2), 1);
        x.work(5, 7);
        due("behind 2: season 5 has lost", x.hands(2), NONE);
    }

    @Sentence(promise = 20, says = "PEG IT: the PEG, driven if it is not, drawn if it is, by which a SEASON has most WEEKS behind m TURNS (0 .. 20);")
    static void pegItBehindNoneAnd20Turns() {
        YearStretch x = slow(60);
        x.peg(0);
        // the peg holds; drawn, one week comes by each odd turn
        due("pegIt(0, 20)", x.pegIt(0, 20), 0);
        due("pegIt(1, 20)", x.pegIt(1, 20), 1);
        due("pegIt(1, 0)", x.pegIt(1, 0), 0);
        due("pegIt(1, 1)", x.pegIt(1, 1), 0);
        due("pegIt(1, 2)", x.pegIt(1, 2), 1);
        due("pegIt(0, 21)", x.pegIt(0, 21), BAD);
        due("pegIt(0, -1)", x.pegIt(0, -1), BAD);
    }

    @Sentence(promise = 20, says = "PEG IT: the PEG, driven if it is not, drawn if it is, by which a SEASON has most WEEKS behind m TURNS (0 .. 20);")
    static void theFirstAndTheLastPegDrivenAndDrawn() {
        YearStretch x = new YearStretch();
        x.team(0, 3, 1);
        due("the first is driven for season 0", x.pegIt(0, 1), 0);
        x.valley();
        x.team(0, 3, 7);
        due("the last is driven for season 6", x.pegIt(6, 1), 6);
        x.peg(6);
        due("the last is drawn for season 7", x.pegIt(7, 1), 6);
        x.valley();
        x.team(0, 3, 1);
        x.peg(0);
        due("the first is drawn for season 1", x.pegIt(1, 1), 0);
        due("but for season 0 it stays", x.pegIt(0, 1), 1);
    }

    @Sentence(promise = 20, says = "of like ones the first;")
    static void ofLikePegsTheFirst() {
        YearStretch x = new YearStretch();
        for (int s = 0; s < 8; s++) {
            due("no team: all alike", x.pegIt(s, 20), 0);
        }
        x.team(0, 3, 5);
        x.team(0, 3, 2);
        // season 2 has 10 by every peg but 1
        due("all but 1 alike", x.pegIt(2, 1), 0);
        x.peg(0);
        due("all but 1 alike, 0 drawn", x.pegIt(2, 1), 0);
        x.team(0, 3, 1);
        // season 1: drawn by 2, given nothing by 0 that is pegged; most by 0 drawn or 1 driven: 7 both
        due("0 drawn is as good as 1 driven", x.pegIt(1, 1), 0);
    }

    private static final String NO_PEG_HELPS = "valley;weeks 0 1;weeks 1 6;weeks 2 10;weeks 3 11;weeks 4 6;weeks 6 10;"
            + "weeks 7 6;team 3 5 3;team 4 7 2;team 2 2 1;team 2 3 6;team 3 3 4;team 3 6 5;";

    @Sentence(promise = 20, says = "7: leaving all as it is (last).")
    static void leavingAllAsItIsComesLast() {
        // found by a search; that each peg leaves fewer weeks is seen by driving it
        YearStretch x = told(NO_PEG_HELPS);
        int has = x.then(17, 5);
        for (int i = 0; i < 7; i++) {
            x.peg(i);
            due("peg " + i + " leaves fewer", x.then(17, 5) < has ? 1 : 0, 1);
            x.undo();
        }
        due("leaving all is best", x.pegIt(5, 17), 7);
        due("with no turns it is only as good", x.pegIt(5, 0), 0);
    }

    // the same question, asked with the calls peg, then and undo
    private static int bestPeg(YearStretch x, int s, int m) {
        int best = 7;
        int most = -1;
        for (int i = 0; i < 7; i++) {
            x.peg(i);
            int got = x.then(m, s);
            x.undo();
            best = got > most ? i : best;
            most = Math.max(most, got);
        }
        return x.then(m, s) > most ? 7 : best;
    }

    @Sentence(promise = 20, says = "by which a SEASON has most WEEKS behind m TURNS (0 .. 20); of like ones the first; "
            + "7: leaving all as it is (last).")
    static void pegItIsAsDrivingEachPeg() {
        for (int m : new int[] {0, 1, 2, 18, 19, 20}) {
            for (int s = 0; s < 8; s++) {
                YearStretch x = told(NO_PEG_HELPS);
                due("pegIt(" + s + ", " + m + ")", x.pegIt(s, m), bestPeg(x, s, m));
            }
        }
    }

    // ---- two who choose

    @Sentence(promise = 21, says = "CHOOSE: two unlike TEAMS a, b for the next n (1 .. 6) TURNS, each pulls for its own SEASON, "
            + "or for that with the greatest WEEKS now (of like ones the least):")
    static void chooseForOneToSixTurns() {
        YearStretch x = new YearStretch();
        x.weeks(4, 9);
        x.team(0, 2, 0);
        x.team(0, 1, 5);
        // season 0 can not pull in turn 0, and season 4, the longest, is too far to matter to it: a is free
        due("n 0", x.choose(0, 1, 0), BAD);
        due("n 1", x.choose(0, 1, 1), 3);
        due("n 2", x.choose(0, 1, 2), 1);
        due("n 7", x.choose(0, 1, 7), BAD);
        due("n -1", x.choose(0, 1, -1), BAD);
    }

    @Sentence(promise = 21, says = "CHOOSE: two unlike TEAMS a, b for the next n (1 .. 6) TURNS, each pulls for its own SEASON, "
            + "or for that with the greatest WEEKS now (of like ones the least):")
    static void chooseGoesOnFromTheTurnThatItIs() {
        // a tired team of 1 for season 0 has something to pull in turns 1, 5, 9, .. only
        YearStretch x = new YearStretch();
        x.weeks(5, 50);
        x.team(4, 1, 0);
        x.team(0, 1, 7);
        pass(x, 2);
        due("3 turns: a is free", x.choose(0, 1, 3), 3);
        due("4 turns: a pulls in turn 5", x.choose(0, 1, 4), 1);
        due("6 turns", x.choose(0, 1, 6), 1);
        x.turn(4);
        // from turn 6 it is turn 9, the fourth
        due("3 turns from 6", x.choose(0, 1, 3), 3);
        due("4 turns from 6", x.choose(0, 1, 4), 1);
    }

    @Sentence(promise = 21, says = "CHOOSE: two unlike TEAMS a, b for the next n (1 .. 6) TURNS,")
    static void theTwoAreUnlikeTeams() {
        YearStretch x = new YearStretch();
        due("no team", x.choose(0, 1, 1), BAD);
        x.team(0, 1, 1);
        due("one team", x.choose(0, 1, 1), BAD);
        due("alike", x.choose(0, 0, 1), BAD);
        for (int i = 1; i < 6; i++) {
            x.team(0, 1, 1);
        }
        due("the first and the last", x.choose(0, 5, 1) >= 0 ? 1 : 0, 1);
        due("the last and the first", x.choose(5, 0, 1) >= 0 ? 1 : 0, 1);
        due("the last twice", x.choose(5, 5, 1), BAD);
        due("one behind the last", x.choose(0, 6, 1), BAD);
        due("one behind the last", x.choose(6, 0, 1), BAD);
        due("one ahead of the first", x.choose(-1, 0, 1), BAD);
        due("one ahead of the first", x.choose(0, -1, 1), BAD);
        dueStatus(x, "choose", 8, 0, 0);
    }

    @Sentence(promise = 21, says = "or for that with the greatest WEEKS now (of like ones the least):")
    static void ofLikeLongestSeasonsTheLeast() {
        YearStretch x = new YearStretch();
        x.team(0, 2, 0);
        x.team(0, 2, 7);
        x.peg(6);
        // all have 7: the least is season 0; a pulls for it either way, b has 7 either way
        due("all alike", x.choose(0, 1, 1), 15);
        x.weeks(1, 8);
        x.weeks(6, 8);
        // the least of both 8s is season 1: a would pull 2 from its own season for it; b, for it, pulls from 0 as well
        due("1 and 6 alike", x.choose(0, 1, 1), 5);
        x.weeks(6, 9);
        // season 6 is the longest: neither changes 0 or 7 by it
        due("6 alone", x.choose(0, 1, 1), 15);
    }

    @Sentence(promise = 21, says = "or for that with the greatest WEEKS now (of like ones the least):")
    static void itsOwnSeasonMayBeTheLongest() {
        YearStretch x = new YearStretch();
        x.weeks(2, 9);
        x.weeks(3, 8);
        x.team(0, 5, 3);
        x.team(0, 1, 7);
        // a has 8 + 5 + 5 for its own; for 2 it has 8, less 5 in turn 1
        due("one fewer than the longest", x.choose(0, 1, 2), 1);
        x.weeks(3, 9);
        due("as many: the least is not its own", x.choose(0, 1, 2), 1);
        x.weeks(3, 10);
        due("one more: its own is the longest, and all one", x.choose(0, 1, 2), 3);
    }

    @Sentence(promise = 21, says = "or for that with the greatest WEEKS now (of like ones the least):")
    static void theLongestIsTheLongestOfNow() {
        YearStretch x = told("valley;weeks 0 9;weeks 3 4;weeks 5 4;team 5 2 4;team 0 1 7;team 1 9 3;");
        // the cooks make season 3 the longest in turn 0; a, if it chose season 0, does not go over to 3 in turn 1,
        // where it would take from its own: it has 7 either way, as greased ones pull from no 4
        due("two turns", x.choose(0, 1, 2), 3);
        x.turn(1);
        // now season 3 is the longest, and a would take from its own for it
        due("season 3", x.of(3, 0), 11);
        due("one turn from then", x.choose(0, 1, 1), 5);
    }

    @Sentence(promise = 21, says = "each wants most WEEKS in its own SEASON: pairs that rest (bits: 0 both for the own, 1 a not, "
            + "2 b not, 3 both not; neither would have more by doing otherwise).")
    static void noPairRests() {
        YearStretch x = new YearStretch();
        x.team(2, 6, 5);
        x.team(5, 4, 4);
        x.team(1, 8, 5);
        // of 7 each season 0 is the longest, for which none can pull in turn 0; a's 5 and b's 4 by pairs:
        // 13, 7 - 15, 5 (the cooks pull) - 13, 1 - 7, 7: a goes, b goes, a comes back, b comes back
        due("no pair", x.choose(0, 1, 1), 0);
        due("no pair, told the other way round", x.choose(1, 0, 1), 0);
    }

    @Sentence(promise = 21, says = "neither would have more by doing otherwise).")
    static void asManyIsNotMore() {
        YearStretch x = new YearStretch();
        x.team(0, 1, 0);
        x.team(0, 1, 0);
        due("nothing changes by any: all four", x.choose(0, 1, 1), 15);
        x.valley();
        x.weeks(3, 20);
        x.team(0, 2, 0);
        x.team(0, 1, 1);
        // a has 6 or 7 by b, whatever it does; b has 8 for its own, else 7
        due("a is free, b is not", x.choose(0, 1, 1), 3);
        due("told the other way round", x.choose(1, 0, 1), 5);
    }

    private static final String[][] EVERY_ANSWER = {
        {"valley;", "team 2 6 5;", "team 5 4 4;", "team 1 8 5;", "1"},
        {"valley;", "team 1 5 2;", "team 4 6 1;", "", "3"},
        {"valley;weeks 0 4;", "team 4 3 7;", "team 5 4 6;", "", "4"},
        {"valley;", "team 1 5 2;", "team 4 6 1;", "", "1"},
        {"valley;", "team 1 7 3;", "team 2 3 4;", "", "4"},
        {"valley;", "team 5 2 2;", "team 1 4 5;", "", "1"},
        {"valley;weeks 0 9;peg 3;", "team 3 4 6;", "team 5 9 6;", "", "1"},
        {"valley;", "team 2 4 7;", "team 0 9 7;", "", "3"},
        {"valley;weeks 1 10;weeks 3 6;", "team 4 3 6;", "team 1 3 5;", "team 5 6 6;", "1"},
        {"valley;weeks 1 9;", "team 5 8 0;", "team 5 5 0;", "", "1"},
        {"valley;weeks 6 0;", "team 5 1 1;", "team 1 9 0;", "", "6"},
        {"valley;weeks 0 1;peg 3;", "team 0 6 4;", "team 0 8 0;", "", "1"},
        {"valley;", "team 1 2 4;", "team 2 3 1;", "team 5 8 1;", "1"},
        {"valley;peg 5;", "team 5 1 1;", "team 1 6 7;", "", "4"},
        {"valley;weeks 0 6;peg 6;", "team 2 5 3;", "team 5 2 2;", "team 5 6 3;", "3"},
        {"valley;", "team 1 8 4;", "team 0 6 0;", "", "1"},
    };

    private static String forSeason(String team, int s) {
        return team.substring(0, team.length() - 2) + s + ";";
    }

    // pairs that rest, by telling each of the four valleys and asking then
    private static int resting(String[] row, int longest, int n) {
        int a = row[1].charAt(9) - '0';
        int b = row[2].charAt(9) - '0';
        int[] ofA = new int[4];
        int[] ofB = new int[4];
        for (int pair = 0; pair < 4; pair++) {
            YearStretch x = told(row[0] + (pair % 2 == 1 ? forSeason(row[1], longest) : row[1])
                    + (pair / 2 == 1 ? forSeason(row[2], longest) : row[2]) + row[3]);
            ofA[pair] = x.then(n, a);
            ofB[pair] = x.then(n, b);
        }
        int bits = 0;
        for (int pair = 0; pair < 4; pair++) {
            int aOther = pair % 2 == 1 ? pair - 1 : pair + 1;
            int bOther = (pair + 2) % 4;
            bits += ofA[aOther] > ofA[pair] || ofB[bOther] > ofB[pair] ? 0 : 1 << pair;
        }
        return bits;
    }

    @Sentence(promise = 21, says = "pairs that rest (bits: 0 both for the own, 1 a not, "
            + "2 b not, 3 both not; neither would have more by doing otherwise).")
    static void everyAnswerFromNoneToAllFour() {
        // found by a search, one for each answer, and compared with the four valleys told one by one
        for (int want = 0; want < EVERY_ANSWER.length; want++) {
            String[] row = EVERY_ANSWER[want];
            YearStretch x = told(row[0] + row[1] + row[2] + row[3]);
            int longest = 0;
            for (int s = 1; s < 8; s++) {
                longest = x.of(s, 0) > x.of(longest, 0) ? s : longest;
            }
            due("choose in " + Arrays.toString(row), x.choose(0, 1, row[4].charAt(0) - '0'), want);
            for (int n = 1; n <= 6; n++) {
                due("choose for " + n + " in " + Arrays.toString(row), x.choose(0, 1, n), resting(row, longest, n));
            }
        }
    }

    // ---- debts, ages, and the year as it was

    @Sentence(promise = 22, says = "DUE: a debt of w (0 .. 800) WEEKS from the beginning of the year: the SEASON in which it comes due "
            + "(the first one in which WEEKS told so far are more than w);")
    static void aDebtComesDueInTheFirstSeasonOfMore() {
        YearStretch x = new YearStretch();
        for (int s = 0; s < 8; s++) {
            due("the first week of season " + s, x.due(7 * s), s);
            due("the last week of season " + s, x.due(7 * s + 6), s);
        }
        x.weeks(0, 0);
        due("a folded season is passed", x.due(0), 1);
        x.weeks(1, 0);
        x.weeks(2, 0);
        due("three folded seasons are passed", x.due(0), 3);
        due("the last week of season 3", x.due(6), 3);
        x.weeks(4, 0);
        due("a folded one between", x.due(7), 5);
    }

    @Sentence(promise = 22, says = "none: beyond the year.")
    static void aDebtBeyondTheYear() {
        YearStretch x = new YearStretch();
        due("due(55)", x.due(55), 7);
        due("due(56)", x.due(56), NONE);
        due("due(800)", x.due(800), NONE);
        for (int s = 0; s < 8; s++) {
            x.weeks(s, 99);
        }
        due("the longest year", x.due(791), 7);
        due("the longest year", x.due(792), NONE);
        due("the longest year", x.due(800), NONE);
        for (int s = 0; s < 8; s++) {
            x.weeks(s, 0);
        }
        due("a year of no weeks", x.due(0), NONE);
        due("due(801)", x.due(801), BAD);
        due("due(-1)", x.due(-1), BAD);
    }

    @Sentence(promise = 23, says = "AGE of one who lives through SEASONS (bits) only:")
    static void anAgeByTheSeasonsLivedThrough() {
        YearStretch x = new YearStretch();
        for (int s = 0; s < 8; s++) {
            x.weeks(s, 10 + s);
        }
        for (int s = 0; s < 8; s++) {
            due("season " + s + " alone", x.age(1 << s, 1), 10 + s);
        }
        due("no season", x.age(0, 60), 0);
        due("all seasons", x.age(255, 1), 108);
        due("the first and the last", x.age(129, 1), 27);
        due("age(256, 1)", x.age(256, 1), BAD);
        due("age(-1, 1)", x.age(-1, 1), BAD);
    }

    @Sentence(promise = 23, says = "WEEKS in m years (0 .. 60), each of one TURN, the year as it is counting first (m 0: 0).")
    static void anAgeOfNoYearsTo60() {
        YearStretch x = slow(60);
        due("no years", x.age(255, 0), 0);
        due("the year as it is", x.age(1, 1), 7);
        due("two years", x.age(1, 2), 14);
        due("three years: the third has one more", x.age(1, 3), 22);
        // 7, 7, 8, 8, .., 36, 36
        due("60 years", x.age(1, 60), 2 * (7 + 36) * 15);
        due("61 years", x.age(1, 61), BAD);
        due("-1 years", x.age(1, -1), BAD);
        for (int s = 0; s < 8; s++) {
            x.weeks(s, 99);
        }
        due("the greatest age", x.age(255, 60), 47520);
    }

    private static final String BACK_IN_60 = "valley;peg 2;peg 4;team 1 6 7;team 5 3 6;team 0 4 5;";
    private static final String BACK_IN_61 = "valley;weeks 1 15;weeks 4 11;weeks 5 11;peg 0;team 1 9 3;team 1 5 5;team 0 2 4;";

    // behind how many turns, played one by one, the weeks are first as they were
    private static int backBehind(YearStretch x) {
        int[] first = new int[8];
        for (int s = 0; s < 8; s++) {
            first[s] = x.of(s, 0);
        }
        for (int m = 1; m <= 70; m++) {
            x.turn(1);
            int alike = 0;
            while (alike < 8 && x.of(alike, 0) == first[alike]) {
                alike++;
            }
            if (alike == 8) {
                return m;
            }
        }
        return NONE;
    }

    @Sentence(promise = 24, says = "AGAIN: behind how many TURNS (1 .. 60) all SEASONS have as many WEEKS as now, for the first time; none.")
    static void againBehind60TurnsButNot61() {
        // both found by a search, and played turn by turn
        due("60", told(BACK_IN_60).again(), 60);
        due("60, played", backBehind(told(BACK_IN_60)), 60);
        due("61", told(BACK_IN_61).again(), NONE);
        due("61, played", backBehind(told(BACK_IN_61)), 61);
    }

    @Sentence(promise = 24, says = "AGAIN: behind how many TURNS (1 .. 60) all SEASONS have as many WEEKS as now, for the first time; none.")
    static void againBehindOneTurnAtLeast() {
        YearStretch x = new YearStretch();
        due("no team: behind 1, not 0", x.again(), 1);
        x.team(0, 1, 0);
        due("behind the even turn", x.again(), 1);
        x.turn(1);
        due("from an odd turn never", x.again(), NONE);
        x.undo();
        x.weeks(1, 0);
        due("nothing to pull", x.again(), 1);
    }

    @Sentence(promise = 24, says = "all SEASONS have as many WEEKS as now, for the first time; none.")
    static void againLooksAtEverySeason() {
        for (int s = 0; s < 8; s++) {
            YearStretch x = new YearStretch();
            for (int i = 0; i < 7; i++) {
                if (i != s && !(s == 7 && i == 6)) {
                    x.peg(i);
                }
            }
            // the only two seasons that are not pegged apart lose and win for good
            x.team(0, 1, s == 7 ? 7 : s + 1);
            due("season " + s + " changes", x.again(), NONE);
        }
    }

    @Sentence(promise = 24, says = "all SEASONS have as many WEEKS as now, for the first time; none.")
    static void againIsTheFirstTimeOfMany() {
        YearStretch x = new YearStretch();
        x.peg(1);
        x.team(0, 2, 1);
        x.team(0, 2, 0);
        due("behind 2, and 4, and 6", x.again(), 2);
        x.turn(2);
        due("again", x.again(), 2);
    }

    // ---- what was measured

    @Sentence(promise = {25, 37}, says = "MEASURED 0 .. 5, as they come: behind m TURNS (0 .. 20) SEASON s has v (0 .. 99) WEEKS.")
    static void sixMeasuredAsTheyCome() {
        YearStretch x = new YearStretch();
        int[][] rows = {{0, 0, 0}, {20, 7, 99}, {1, 2, 3}, {20, 0, 0}, {0, 7, 99}, {5, 5, 5}};
        for (int i = 0; i < 6; i++) {
            due("measured", x.measured(rows[i][0], rows[i][1], rows[i][2]), i + 1);
        }
        due("a 7th", x.measured(0, 0, 0), FULL);
        long h = mix(1109, 0, 0, 0, 56, 6, 0, 0, 7, 7, 7, 7, 7, 7, 7, 7, 0, 0, 0, 0, 0, 0, 0);
        for (int[] row : rows) {
            h = mix(h, row[0], row[1], row[2]);
        }
        due("digest", x.digest(), mix(h, 0, 1));
    }

    @Sentence(promise = 25, says = "MEASURED 0 .. 5, as they come: behind m TURNS (0 .. 20) SEASON s has v (0 .. 99) WEEKS.")
    static void measuredByTheEdgesOfItsNumbers() {
        YearStretch x = new YearStretch();
        due("m -1", x.measured(-1, 0, 0), BAD);
        due("m 21", x.measured(21, 0, 0), BAD);
        due("s -1", x.measured(0, -1, 0), BAD);
        due("s 8", x.measured(0, 8, 0), BAD);
        due("v -1", x.measured(0, 0, -1), BAD);
        due("v 100", x.measured(0, 0, 100), BAD);
        due("least", x.measured(0, 0, 0), 1);
        due("most", x.measured(20, 7, 99), 2);
    }

    @Sentence(promise = 27, says = "IS: KINDS (bits) by which, were a TEAM of it, all MEASURED are so.")
    static void isByNoneMeasuredAndBySix() {
        YearStretch x = new YearStretch();
        x.team(0, 2, 1);
        due("none measured: all kinds", x.is(0), 63);
        // behind 1: 9 by plain, boys, tired; 11 by hair, greased; 7 by cooks
        for (int i = 0; i < 5; i++) {
            x.measured(1, 1, 9);
            due("9", x.is(0), 21);
        }
        x.measured(2, 1, 13);
        due("the sixth counts: 9 + 4, boys", x.is(0), 4);
        x.forget();
        x.measured(1, 1, 11);
        for (int i = 0; i < 5; i++) {
            x.measured(0, i, 7);
        }
        due("the first of six counts", x.is(0), 40);
    }

    @Sentence(promise = 27, says = "IS: KINDS (bits) by which, were a TEAM of it, all MEASURED are so.")
    static void isByWhatWasMeasuredBehindNoneAnd20() {
        YearStretch x = slow(60);
        x.measured(0, 0, 7);
        due("behind 0 as it is", x.is(0), 63);
        // ten odd turns behind 20: plain 1 each; boys 2; hair, greased 3; cooks 1, while 1 has more
        // tired: 2 less 1 or 3 by turns: five of 1, five of 0
        x.measured(20, 0, 17);
        due("17 behind 20", x.is(0), 3);
        x.forget();
        x.measured(20, 0, 27);
        due("27 behind 20", x.is(0), 4);
        x.forget();
        x.measured(20, 0, 37);
        due("37 behind 20", x.is(0), 40);
        x.forget();
        x.measured(20, 0, 12);
        due("12 behind 20", x.is(0), 16);
        x.forget();
        x.measured(0, 0, 8);
        due("behind 0 as it is not", x.is(0), 0);
    }

    @Sentence(promise = 27, says = "IS: KINDS (bits) by which, were a TEAM of it, all MEASURED are so.")
    static void isOfTheFirstAndTheLastTeam() {
        YearStretch x = new YearStretch();
        due("no team", x.is(0), BAD);
        x.team(0, 1, 1);
        for (int i = 1; i < 5; i++) {
            x.team(0, 1, 4);
        }
        x.team(3, 1, 7);
        x.peg(3);
        x.measured(1, 1, 8);
        x.measured(1, 7, 10);
        // season 1 has 8 by plain, boys, tired ones of 1; season 7 has 10 by hair, greased ones of 1
        due("the first", x.is(0), 21);
        due("the last", x.is(5), 40);
        due("one that is pegged", x.is(2), 63);
        due("one behind the last", x.is(6), BAD);
    }

    @Sentence(promise = 28, says = "MEASURE NEXT of a TEAM behind m TURNS: the SEASON by which the most of these KINDS that have alike are fewest;")
    static void nextMayBeTheLastSeason() {
        YearStretch x = told("valley;weeks 6 4;peg 4;team 4 5 6;team 4 9 7;");
        // behind 2, by kinds: season 5: 2 2 2 0 2 0, season 6: 5 5 10 9 9 9, season 7: 11 11 6 9 7 9
        due("season 7", x.next(0, 2), 7);
        int[][] want = {{2, 2, 2, 0, 2, 0}, {5, 5, 10, 9, 9, 9}, {11, 11, 6, 9, 7, 9}};
        for (int kind = 0; kind < 6; kind++) {
            YearStretch y = told("valley;weeks 6 4;peg 4;team " + kind + " 5 6;team 4 9 7;");
            for (int s = 5; s < 8; s++) {
                due("kind " + kind + ", season " + s, y.then(2, s), want[s - 5][kind]);
            }
        }
    }

    @Sentence(promise = 28, says = "MEASURE NEXT of a TEAM behind m TURNS: the SEASON by which the most of these KINDS that have alike are fewest;")
    static void nextLooksAtTheKindsThatAreLeftOnly() {
        YearStretch x = new YearStretch();
        x.team(0, 2, 4);
        // behind 2, by kinds: season 3: 5 7 5 3 5 3, season 4: 11 7 13 15 12 15, season 5: 5 7 3 3 4 3
        due("season 4", x.next(0, 2), 4);
        x.measured(1, 4, 11);
        // hair and greased are left: alike in all seasons behind 2
        due("two that are alike", x.next(0, 2), 0);
        // in turn 2 hair takes the 3 that are left in season 3, greased ones can not
        due("two that are not", x.next(0, 3), 3);
        x.measured(3, 3, 0);
        due("one is left", x.next(0, 3), 0);
    }

    @Sentence(promise = 28, says = "MEASURE NEXT of a TEAM behind m TURNS: the SEASON by which the most of these KINDS that have alike are fewest;")
    static void nextMayTellOnlyOneOfSixApart() {
        YearStretch x = new YearStretch();
        x.weeks(3, 4);
        x.weeks(4, 0);
        x.team(0, 9, 4);
        // all take the 4 that are in season 3, but for greased ones
        due("five alike in season 3, six in season 0", x.next(0, 1), 3);
        x.weeks(3, 0);
        due("six alike in all", x.next(0, 1), 0);
    }

    @Sentence(promise = 28, says = "of like ones the first;")
    static void nextOfLikeSeasonsTheFirst() {
        YearStretch x = new YearStretch();
        x.team(0, 2, 4);
        due("behind 0 all are alike", x.next(0, 0), 0);
        // behind 1 seasons 3 and 4 tell alike
        due("behind 1", x.next(0, 1), 3);
        x.peg(3);
        x.peg(2);
        x.peg(4);
        due("pegged: all are alike behind 20", x.next(0, 20), 0);
    }

    @Sentence(promise = 28, says = "none: no KIND.")
    static void nextOfNoKind() {
        YearStretch x = new YearStretch();
        x.team(0, 2, 1);
        x.measured(0, 7, 6);
        due("no kind", x.next(0, 0), NONE);
        due("no kind", x.next(0, 20), NONE);
        x.forget();
        due("all kinds", x.next(0, 0), 0);
        x.measured(2, 1, 12);
        due("one kind", x.next(0, 20), 0);
    }

    @Sentence(promise = 29, says = "WANTS: SEASONS (bits) for which a TEAM may pull so that all MEASURED are so (its KIND as it is).")
    static void wantsFromNoSeasonToAll() {
        YearStretch x = new YearStretch();
        x.team(0, 2, 3);
        due("none measured", x.wants(0), 255);
        x.measured(1, 0, 5);
        due("season 1 takes from the first", x.wants(0), 2);
        x.forget();
        x.measured(1, 7, 9);
        due("the last season", x.wants(0), 128);
        x.forget();
        x.measured(2, 0, 9);
        due("the first season", x.wants(0), 1);
        x.measured(2, 0, 8);
        due("no season", x.wants(0), 0);
        x.forget();
        x.measured(0, 3, 7);
        due("behind 0 all", x.wants(0), 255);
    }

    @Sentence(promise = 29, says = "WANTS: SEASONS (bits) for which a TEAM may pull so that all MEASURED are so (its KIND as it is).")
    static void wantsByItsKindAsItIs() {
        int[] firstTurn = {9, 7, 9, 11, 9, 11};
        for (int kind = 0; kind < 6; kind++) {
            YearStretch x = new YearStretch();
            x.team(kind, 2, 5);
            x.measured(1, 4, 9);
            due("9 by kind " + kind, x.wants(0), firstTurn[kind] == 9 ? 16 : 0);
            x.forget();
            x.measured(1, 4, 11);
            due("11 by kind " + kind, x.wants(0), firstTurn[kind] == 11 ? 16 : 0);
        }
    }

    @Sentence(promise = 29, says = "WANTS: SEASONS (bits) for which a TEAM may pull so that all MEASURED are so (its KIND as it is).")
    static void wantsBehind20Turns() {
        YearStretch x = new YearStretch();
        x.weeks(6, 60);
        x.team(0, 1, 2);
        x.measured(20, 7, 17);
        due("ten even turns", x.wants(0), 128);
        x.measured(19, 7, 17);
        due("the tenth even turn is behind 19", x.wants(0), 128);
        x.measured(18, 7, 17);
        due("not behind 18", x.wants(0), 0);
    }

    // ---- odds and years

    @Sentence(promise = 30, says = "ODDS: in the next TURN each TEAM pulls by c of 10 (0 .. 10), apart: "
            + "the chance that a SEASON has n (0 .. 99) WEEKS or more behind it: THE FRACTION.")
    static void oddsOfNoTeam() {
        YearStretch x = new YearStretch();
        x.odds(7, 7, 5);
        dueFraction(x, "as many", 1, 1);
        x.odds(7, 8, 5);
        dueFraction(x, "one more", 0, 1);
        x.odds(0, 0, 0);
        dueFraction(x, "none", 1, 1);
        x.odds(0, 99, 10);
        dueFraction(x, "99", 0, 1);
        x.weeks(0, 99);
        x.odds(0, 99, 0);
        dueFraction(x, "99 of 99", 1, 1);
    }

    private static YearStretch sixForTheLast(int weeks) {
        YearStretch x = new YearStretch();
        x.weeks(6, 99);
        x.weeks(7, weeks);
        for (int i = 0; i < 6; i++) {
            x.team(0, 1, 7);
        }
        return x;
    }

    @Sentence(promise = 30, says = "ODDS: in the next TURN each TEAM pulls by c of 10 (0 .. 10), apart: "
            + "the chance that a SEASON has n (0 .. 99) WEEKS or more behind it: THE FRACTION.")
    static void oddsOfSixTeams() {
        YearStretch x = sixForTheLast(93);
        long[][] rows = {{0, 0, 1}, {1, 1, 1000000}, {2, 1, 15625}, {3, 729, 1000000}, {5, 1, 64}, {9, 531441, 1000000}, {10, 1, 1}};
        for (long[] row : rows) {
            due("odds", x.odds(7, 99, (int) row[0]), 1);
            dueFraction(x, "all six by " + row[0], row[1], row[2]);
        }
        x.odds(7, 94, 1);
        dueFraction(x, "one at least by 1", 468559, 1000000);
        x.odds(7, 94, 0);
        dueFraction(x, "one at least by 0", 0, 1);
        x.odds(7, 93, 0);
        dueFraction(x, "as many by 0", 1, 1);
        x.odds(6, 99, 9);
        dueFraction(x, "no one at all by 9", 1, 1000000);
        x.odds(7, 0, 5);
        dueFraction(x, "0 or more", 1, 1);
    }

    @Sentence(promise = 30, says = "ODDS: in the next TURN each TEAM pulls by c of 10 (0 .. 10), apart: "
            + "the chance that a SEASON has n (0 .. 99) WEEKS or more behind it: THE FRACTION.")
    static void oddsAtTheEdgeOfAsManyOrMore() {
        YearStretch x = new YearStretch();
        x.team(0, 3, 1);
        x.odds(1, 10, 4);
        dueFraction(x, "as many", 2, 5);
        x.odds(1, 11, 4);
        dueFraction(x, "one more", 0, 1);
        x.odds(0, 4, 4);
        dueFraction(x, "as few in the other", 1, 1);
        x.odds(0, 5, 4);
        dueFraction(x, "one more in the other", 3, 5);
        x.turn(1);
        x.odds(2, 7, 4);
        dueFraction(x, "in the next turn, an odd one", 3, 5);
    }

    @Sentence(promise = 31, says = "YEARS by a SEED (0 .. 999999), n (0 .. 60) TURNS, w (0 .. 100): X is SEED at first; "
            + "in each TURN, for each TEAM in order, X becomes X times 1103515245 and 12345, by 2147483648 what is left over; "
            + "X by 65536 (cut), by 100 left over, less than w: it pulls, else rests: how many WORKS are DONE behind these.")
    static void aTeamPullsByLessThanW() {
        YearStretch x = new YearStretch();
        x.team(0, 1, 1);
        x.work(1, 8);
        // seed 0: X 12345, cut 0; seed 194: X 1481088723, cut 22599, left over 99
        due("0 is not less than 0", x.years(0, 1, 0), 0);
        due("0 is less than 1", x.years(0, 1, 1), 1);
        due("99 is not less than 99", x.years(194, 1, 99), 0);
        due("99 is less than 100", x.years(194, 1, 100), 1);
        // seed 999999: X 1751684876, cut 26728, left over 28
        due("28 is not less than 28", x.years(999999, 1, 28), 0);
        due("28 is less than 29", x.years(999999, 1, 29), 1);
        due("seed 1000000", x.years(1000000, 1, 29), BAD);
        due("seed -1", x.years(-1, 1, 29), BAD);
        due("w 101", x.years(0, 1, 101), BAD);
        due("w -1", x.years(0, 1, -1), BAD);
    }

    @Sentence(promise = 31, says = "X by 65536 (cut), by 100 left over, less than w: it pulls, else rests:")
    static void xIsCutBy65536() {
        YearStretch x = new YearStretch();
        x.team(0, 1, 1);
        x.work(1, 8);
        // seed 42627: X 1062535168 is 65536 times 16213; seed 47902: X 277282815 is one less than 65536 times 4231
        due("13 is not less than 13", x.years(42627, 1, 13), 0);
        due("13 is less than 14", x.years(42627, 1, 14), 1);
        due("30 is not less than 30", x.years(47902, 1, 30), 0);
        due("30 is less than 31", x.years(47902, 1, 31), 1);
    }

    @Sentence(promise = 31, says = "in each TURN, for each TEAM in order, X becomes X times 1103515245 and 12345, by 2147483648 what is left over;")
    static void eachTeamHasItsOwnX() {
        YearStretch x = new YearStretch();
        int[] left = {0, 68, 88, 17, 98, 27};
        for (int i = 0; i < 6; i++) {
            x.team(0, 1, 7);
        }
        // of seed 0, in one turn, the six teams have 0 68 88 17 98 27
        x.work(7, 8);
        x.work(7, 9);
        x.work(7, 10);
        x.work(7, 11);
        x.work(7, 12);
        x.work(7, 13);
        for (int w : new int[] {0, 1, 17, 18, 27, 28, 68, 69, 88, 89, 98, 99, 100}) {
            long pull = Arrays.stream(left).filter(n -> n < w).count();
            due("w " + w, x.years(0, 1, w), pull);
        }
    }

    @Sentence(promise = 31, says = "in each TURN, for each TEAM in order,")
    static void theTeamsHaveTheirXInOrder() {
        YearStretch x = new YearStretch();
        x.team(0, 1, 2);
        x.team(0, 1, 6);
        x.work(2, 8);
        // of seed 0 the first team has 0, the second 68
        due("the first pulls", x.years(0, 1, 1), 1);
        x.idle();
        x.work(6, 8);
        due("the second rests", x.years(0, 1, 1), 0);
        due("the second rests by 68", x.years(0, 1, 68), 0);
        due("the second pulls by 69", x.years(0, 1, 69), 1);
        // in turn 1 the first has 88, the second 17: season 6 has 9 by both turns of the second only
        x.work(6, 9);
        due("the second pulls in both turns by 69", x.years(0, 2, 69), 2);
        due("in turn 1 alone by 18", x.years(0, 2, 18), 1);
        due("in none by 17", x.years(0, 2, 17), 0);
    }

    @Sentence(promise = 31, says = "in each TURN, for each TEAM in order, X becomes X times 1103515245 and 12345,")
    static void xGoesOnFromTurnToTurn() {
        YearStretch x = new YearStretch();
        x.team(0, 1, 1);
        x.work(1, 8);
        x.work(1, 9);
        x.work(1, 10);
        // of seed 0 the turns have 0, 68, 88, 17
        due("two turns by 68: the first pulls", x.years(0, 2, 68), 1);
        due("two turns by 69: both pull", x.years(0, 2, 69), 2);
        due("four turns by 17: the first", x.years(0, 4, 17), 1);
        due("four turns by 18: the first and the fourth", x.years(0, 4, 18), 2);
        due("four turns by 69: all but the third", x.years(0, 4, 69), 3);
    }

    @Sentence(promise = 31, says = "YEARS by a SEED (0 .. 999999), n (0 .. 60) TURNS, w (0 .. 100):")
    static void yearsOfNoneAnd60Turns() {
        YearStretch x = slow(60);
        x.work(0, 37);
        x.work(0, 7);
        due("no turns", x.years(5, 0, 100), 1);
        due("59 turns", x.years(5, 59, 100), 1);
        due("60 turns", x.years(5, 60, 100), 2);
        due("60 turns by 0", x.years(5, 60, 0), 1);
        due("61 turns", x.years(5, 61, 100), BAD);
        due("-1 turns", x.years(5, -1, 100), BAD);
    }

    @Sentence(promise = 31, says = "how many WORKS are DONE behind these.")
    static void yearsOfNoWorkAndSix() {
        YearStretch x = new YearStretch();
        due("no team, no work", x.years(0, 60, 100), 0);
        for (int i = 0; i < 6; i++) {
            x.work(i, 7);
        }
        due("six works, no team", x.years(999999, 60, 100), 6);
        x.team(0, 7, 1);
        due("one is lost", x.years(0, 1, 100), 5);
    }

    // ---- what may be undone

    @Sentence(promise = 12, says = "UNDO: WEEKS, PEGS, the TURN as ahead of the last TURN gone by, PEG driven or drawn, WEEKS told "
            + "(8 at most; behind a TEAM that comes none may be).")
    static void eachOfTheFourIsUndone() {
        YearStretch x = new YearStretch();
        x.team(0, 2, 1);
        long[] digests = new long[5];
        digests[0] = x.digest();
        x.turn(1);
        digests[1] = x.digest();
        x.peg(0);
        digests[2] = x.digest();
        x.peg(0);
        digests[3] = x.digest();
        x.weeks(7, 99);
        int[] turns = {0, 1, 1, 1};
        for (int i = 3; i >= 0; i--) {
            due("undo " + i, x.undo(), turns[i]);
            due("digest " + i, x.digest(), digests[i]);
        }
        due("no more", x.undo(), NO);
    }

    @Sentence(promise = 12, says = "(8 at most; behind a TEAM that comes none may be).")
    static void eightMayBeUndoneAndTheNinthFallsOut() {
        for (int told = 7; told <= 10; told++) {
            YearStretch x = new YearStretch();
            for (int i = 1; i <= told; i++) {
                x.weeks(3, 10 + i);
            }
            int kept = Math.min(8, told);
            due(told + " told", x.count(5), kept);
            for (int i = 1; i <= kept; i++) {
                due("undo", x.undo(), 0);
                int left = told - i;
                due("weeks behind undo " + i + " of " + told, x.of(3, 0), left == 0 ? 7 : 10 + left);
            }
            due("no more", x.undo(), NO);
            due("weeks", x.of(3, 0), told <= 8 ? 7 : 10 + told - 8);
        }
    }

    @Sentence(promise = 12, says = "(8 at most; behind a TEAM that comes none may be).")
    static void whatFellOutDoesNotComeBack() {
        YearStretch x = new YearStretch();
        x.turn(60);
        for (int t = 59; t >= 52; t--) {
            due("undo", x.undo(), t);
        }
        due("no more", x.undo(), NO);
        x.turn(3);
        for (int t = 54; t >= 52; t--) {
            due("undo", x.undo(), t);
        }
        due("no more", x.undo(), NO);
    }

    @Sentence(promise = 12, says = "(8 at most; behind a TEAM that comes none may be).")
    static void behindATeamNoneMayBeUndone() {
        YearStretch x = new YearStretch();
        x.turn(8);
        due("8", x.count(5), 8);
        x.team(0, 1, 1);
        due("none", x.count(5), 0);
        due("undo", x.undo(), NO);
        due("the turn stays", x.count(2), 8);
        x.peg(3);
        due("undo of what came behind", x.undo(), 8);
        due("undo", x.undo(), NO);
    }

    @Sentence(promise = 12, says = "(8 at most; behind a TEAM that comes none may be).")
    static void aRefusedTeamLeavesWhatMayBeUndone() {
        YearStretch x = new YearStretch();
        for (int i = 0; i < 6; i++) {
            x.team(0, 1, 1);
        }
        x.weeks(5, 50);
        due("a 7th", x.team(0, 1, 1), FULL);
        due("a bad one", x.team(6, 1, 1), BAD);
        due("one", x.count(5), 1);
        x.undo();
        due("weeks", x.of(5, 0), 7);
    }

    @Sentence(promise = 12, says = "UNDO: WEEKS, PEGS, the TURN as ahead of the last TURN gone by, PEG driven or drawn, WEEKS told")
    static void worksAndMeasuredAreNotUndone() {
        YearStretch x = new YearStretch();
        x.peg(6);
        x.work(1, 1);
        x.measured(1, 1, 1);
        x.type('x');
        x.odds(0, 0, 0);
        due("one may be undone", x.count(5), 1);
        due("undo", x.undo(), 0);
        due("the work stays", x.count(1), 1);
        due("the measured stays", x.count(4), 1);
        due("the text stays", x.count(6), 1);
        due("the fraction stays", x.part(0), 1);
        due("no more", x.undo(), NO);
    }

    // ---- images

    @Sentence(promise = {33, 34}, says = "IMAGES 0, 1 keep all but them, THE TEXT, THE FRACTION and STATUS;")
    static void imagesKeepAllButThemselvesTextFractionAndStatus() {
        YearStretch x = new YearStretch();
        x.team(5, 9, 7);
        x.work(7, 60);
        x.measured(20, 7, 99);
        x.weeks(0, 99);
        x.peg(6);
        x.turn(1);
        due("image(0)", x.image(0), 1);
        x.valley();
        x.type('a');
        x.odds(0, 0, 5);
        x.peg(7);
        x.undo();
        due("image(1)", x.image(1), 1);
        due("from(0)", x.from(0), 1);
        // 6 is pegged from 7
        due("digest", x.digest(), mix(mix(mix(1109, 1, 1, 1, 148, 1, 3, 1), 99, 7, 7, 7, 7, 7, 7, 7, 0, 0, 0, 0, 0, 0, 1),
                5, 9, 7, 7, 60, 20, 7, 99, 1, 1));
        dueStatus(x, "from(0)", 1, 1, 0);
        due("the other image is still kept", x.from(1), 1);
        due("its teams", x.count(0), 0);
        due("the text", x.count(6), 1);
    }

    @Sentence(promise = {33, 34}, says = "what may be undone they keep;")
    static void imagesKeepTheEightThatMayBeUndone() {
        YearStretch x = new YearStretch();
        x.turn(5);
        for (int i = 0; i < 6; i++) {
            x.peg(i);
        }
        x.image(1);
        for (int i = 0; i < 6; i++) {
            x.undo();
        }
        x.turn(3);
        x.weeks(0, 0);
        x.from(1);
        due("that may be undone", x.count(5), 8);
        for (int i = 0; i < 6; i++) {
            due("pegs undone", x.undo(), 5);
        }
        due("turns undone", x.undo(), 4);
        due("turns undone", x.undo(), 3);
        due("no more", x.undo(), NO);
        due("weeks", x.of(0, 0), 7);
        due("peg 0", x.peg(0), 1);
    }

    private static void changeEverything(YearStretch x, int times, int by) {
        for (int i = 0; i < times; i++) {
            x.weeks(i % 8, by + i);
            x.peg((i + by) % 7);
            x.turn(1);
        }
    }

    @Sentence(promise = {33, 34}, says = "what may be undone they keep;")
    static void imagesKeepWeeksPegsAndTurnOfEachOfTheEight() {
        for (int image = 0; image < 2; image++) {
            YearStretch x = new YearStretch();
            YearStretch like = new YearStretch();
            x.team(0, 1, 3);
            like.team(0, 1, 3);
            changeEverything(x, 4 + image, 20);
            changeEverything(like, 4 + image, 20);
            x.image(image);
            x.valley();
            changeEverything(x, 5, 50);
            x.image(1 - image);
            x.from(image);
            due("that may be undone", x.count(5), 8);
            for (int i = 0; i < 8; i++) {
                due("digest ahead of undo " + i, x.digest(), like.digest());
                due("undo " + i, x.undo(), like.undo());
            }
            due("digest behind all", x.digest(), like.digest());
            due("no more", x.undo(), NO);
        }
    }

    @Sentence(promise = {33, 34}, says = "what may be undone they keep;")
    static void anImageWithNothingToUndoHasNone() {
        YearStretch x = new YearStretch();
        x.image(0);
        x.turn(3);
        x.from(0);
        due("none", x.count(5), 0);
        due("undo", x.undo(), NO);
    }

    @Sentence(promise = 34, says = "it goes on from one.")
    static void itGoesOnFromAnImageMoreThanOnce() {
        YearStretch x = new YearStretch();
        x.team(0, 2, 1);
        x.image(0);
        for (int i = 0; i < 3; i++) {
            x.turn(3);
            x.team(0, 1, 1);
            x.work(1, 1);
            due("from(0)", x.from(0), 1);
            due("teams", x.count(0), 1);
            due("works", x.count(1), 0);
            due("the turn", x.count(2), 0);
            due("turn(1)", x.turn(1), 1);
            dueWeeks(x, "behind a turn", 5, 9, 7, 7, 7, 7, 7, 7);
        }
    }

    // ---- what was refused

    @Sentence(promise = 35, says = "STATUS: how many calls were refused as BAD, NO, FULL (each answer told so below is such a one).")
    static void eachRefusalIsCountedOnce() {
        YearStretch x = new YearStretch();
        dueStatus(x, "new", 0, 0, 0);
        x.weeks(-1, -1);
        x.team(9, 99, 999);
        dueStatus(x, "two with many bad numbers", 2, 0, 0);
        x.undo();
        dueStatus(x, "undo", 2, 1, 0);
        x.from(0);
        x.from(1);
        dueStatus(x, "from", 2, 3, 0);
        for (int i = 0; i < 9; i++) {
            x.work(0, 1);
        }
        dueStatus(x, "three works too many", 2, 3, 3);
    }

    @Sentence(promise = 35, says = "STATUS: how many calls were refused as BAD, NO, FULL (each answer told so below is such a one).")
    static void answersOfNoneAndFaultsAreNotCounted() {
        YearStretch x = new YearStretch();
        x.read();
        x.type('x');
        x.read();
        x.work(0, 60);
        due("when", x.when(0), NONE);
        due("hands", x.hands(20), NONE);
        due("due", x.due(800), NONE);
        x.team(0, 9, 1);
        due("again", x.again(), NONE);
        x.measured(0, 0, 99);
        due("next", x.next(0, 0), NONE);
        x.turn(1);
        x.peg(1);
        due("about", x.about(0, 3), NONE);
        dueStatus(x, "none and faults", 0, 0, 0);
    }

    @Sentence(promise = {1, 32}, says = "THE FRACTION is 0 by 1 at first; lowest terms, below above 0.")
    static void theFractionAtFirst() {
        YearStretch x = new YearStretch();
        dueFraction(x, "new", 0, 1);
    }

    @Sentence(promise = 32, says = "THE FRACTION is 0 by 1 at first; lowest terms, below above 0.")
    static void theFractionIsInLowestTerms() {
        for (int c = 0; c <= 10; c++) {
            YearStretch x = sixForTheLast(7);
            for (int n = 7; n <= 14; n++) {
                x.odds(7, n, c);
                long above = x.part(0);
                long below = x.part(1);
                due("below is above 0", below > 0 ? 1 : 0, 1);
                due("not both by 2", above % 2 == 0 && below % 2 == 0 ? 1 : 0, 0);
                due("not both by 5", above % 5 == 0 && below % 5 == 0 ? 1 : 0, 0);
                due("a part of a million", 1000000 % below, 0);
                if (n == 14) {
                    dueFraction(x, "never", 0, 1);
                }
            }
        }
    }

    @Sentence(promise = {35, 5, 6, 8, 25, 34}, says = "Refused, changing nothing but STATUS, the first of: BAD -2 a number is not as told; "
            + "NO -3 as told; FULL -4 (where others are told they count as these).")
    static void badComesAheadOfNoAndFull() {
        YearStretch x = new YearStretch();
        for (int i = 0; i < 6; i++) {
            x.team(0, 1, 0);
            x.work(0, 1);
            x.measured(0, 0, 7);
        }
        type(x, " ".repeat(150));
        due("team", x.team(6, 1, 0), BAD);
        due("team", x.team(0, 10, 0), BAD);
        due("team", x.team(0, 1, 8), BAD);
        due("work", x.work(8, 1), BAD);
        due("work", x.work(0, 61), BAD);
        due("measured", x.measured(21, 0, 0), BAD);
        due("measured", x.measured(0, 8, 0), BAD);
        due("measured", x.measured(0, 0, 100), BAD);
        due("type", x.type(128), BAD);
        due("from", x.from(2), BAD);
        dueStatus(x, "bad", 10, 0, 0);
        due("team", x.team(0, 1, 0), FULL);
        due("work", x.work(0, 1), FULL);
        due("measured", x.measured(0, 0, 7), FULL);
        due("type", x.type(' '), FULL);
        due("from", x.from(1), NO);
        dueStatus(x, "full and no", 10, 1, 4);
    }

    @Sentence(promise = {35, 5, 6, 8, 25, 34}, says = "Refused, changing nothing but STATUS,")
    static void fullAndNoChangeNothing() {
        YearStretch x = new YearStretch();
        for (int i = 0; i < 6; i++) {
            x.team(0, 1, 0);
            x.work(0, 1);
            x.measured(0, 0, 7);
        }
        type(x, " ".repeat(150));
        x.weeks(1, 1);
        long before = x.digest();
        x.team(5, 9, 7);
        due("behind a 7th team", x.digest(), before);
        x.work(7, 60);
        due("behind a 7th work", x.digest(), before);
        x.measured(20, 7, 99);
        due("behind a 7th measured", x.digest(), before);
        x.type('x');
        due("behind a 151st byte", x.digest(), before);
        x.from(0);
        due("behind an image that was never kept", x.digest(), before);
        due("the past stays", x.undo(), 0);
        due("behind it none", x.undo(), NO);
        due("the weeks stay", x.of(1, 0), 7);
    }

    @Sentence(promise = {35, 14, 18}, says = "(where others are told they count as these).")
    static void otherAnswersCountAsBad() {
        YearStretch x = new YearStretch();
        due("about", x.about(0, 0), -10);
        dueStatus(x, "about", 1, 0, 0);
        due("when", x.when(0), -10);
        dueStatus(x, "when", 2, 0, 0);
        due("status", x.status(3), -1);
        dueStatus(x, "status", 3, 0, 0);
    }
}
