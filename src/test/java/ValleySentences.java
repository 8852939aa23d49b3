// The terms of seasons, pegs, teams and their kinds, turns and works: one test for each sentence, or each edge of it.
final class ValleySentences extends Boundary {
    private static final int[] ALL_SEVEN = {7, 7, 7, 7, 7, 7, 7, 7};

    // ---- seasons and pegs

    @Sentence(promise = {1, 13}, says = "7 of WEEKS (0 .. 99 each; 7 each at first), one behind the other.")
    static void eightSeasonsOfSevenWeeksAtFirst() {
        YearStretch x = new YearStretch();
        dueWeeks(x, "new", ALL_SEVEN);
        due("a season ahead of the first", x.of(-1, 0), BAD);
        due("a season behind the last", x.of(8, 0), BAD);
    }

    @Sentence(promise = 3, says = "7 of WEEKS (0 .. 99 each; 7 each at first), one behind the other.")
    static void weeksAreNoneTo99() {
        for (int s = 0; s < 8; s += 7) {
            YearStretch x = new YearStretch();
            due("weeks(" + s + ", 0)", x.weeks(s, 0), 7);
            due("of", x.of(s, 0), 0);
            due("weeks(" + s + ", 99)", x.weeks(s, 99), 0);
            due("of", x.of(s, 0), 99);
            due("weeks(" + s + ", -1)", x.weeks(s, -1), BAD);
            due("weeks(" + s + ", 100)", x.weeks(s, 100), BAD);
            due("of", x.of(s, 0), 99);
        }
    }

    @Sentence(promise = 11, says = "7 of WEEKS (0 .. 99 each; 7 each at first), one behind the other.")
    static void eachSeasonIsBehindTheOneBefore() {
        for (int s = 1; s < 8; s++) {
            YearStretch x = new YearStretch();
            x.team(0, 1, s);
            x.turn(1);
            int[] want = ALL_SEVEN.clone();
            want[s - 1] = 6;
            want[s] = 8;
            dueWeeks(x, "season " + s, want);
        }
    }

    @Sentence(promise = 4, says = "PEGS 0 .. 6: PEG i is between SEASONS i and i and 1 (none at first).")
    static void eachPegHoldsItsTwoSeasonsAndNoOthers() {
        for (int i = 0; i < 7; i++) {
            YearStretch x = new YearStretch();
            x.team(0, 1, i + 1);
            x.team(0, 1, i);
            due("none at first", x.about(0, 3), i);
            due("peg " + i, x.peg(i), 1);
            due("peg " + i + ", even", x.about(0, 3), NONE);
            x.turn(1);
            due("peg " + i + ", odd", x.about(1, 3), NONE);
            for (int other = 0; other < 7; other++) {
                due("peg", x.peg(other), other == i ? 0 : 1);
            }
            due("all pegs but " + i + ", odd", x.about(1, 3), i + 1);
            x.turn(1);
            due("all pegs but " + i + ", even", x.about(0, 3), i);
        }
    }

    @Sentence(promise = 4, says = "PEGS 0 .. 6: PEG i is between SEASONS i and i and 1 (none at first).")
    static void noPegAheadOfTheFirstNorBehindTheLast() {
        YearStretch x = new YearStretch();
        due("peg(0)", x.peg(0), 1);
        due("peg(6)", x.peg(6), 1);
        due("peg(-1)", x.peg(-1), BAD);
        due("peg(7)", x.peg(7), BAD);
    }

    @Sentence(promise = {1, 36}, says = "TURNS have numbers, 0 at first.")
    static void theFirstTurnIsZero() {
        YearStretch x = new YearStretch();
        due("count(2)", x.count(2), 0);
        due("turn(1)", x.turn(1), 1);
        due("count(2)", x.count(2), 1);
    }

    // ---- teams and their kinds

    @Sentence(promise = 5, says = "TEAMS 0 .. 5, as they come: a KIND, STRONG (1 .. 9), a SEASON for which it pulls.")
    static void sixTeamsAsTheyCome() {
        YearStretch x = new YearStretch();
        int[][] teams = {{0, 1, 0}, {1, 9, 7}, {2, 5, 3}, {3, 2, 6}, {4, 8, 1}, {5, 4, 4}};
        for (int i = 0; i < 6; i++) {
            due("team " + i, x.team(teams[i][0], teams[i][1], teams[i][2]), i);
        }
        for (int i = 0; i < 6; i++) {
            for (int what = 0; what < 3; what++) {
                due("about(" + i + ", " + what + ")", x.about(i, what), teams[i][what]);
            }
        }
        due("a team behind the last", x.about(6, 0), OTHER_BAD);
    }

    @Sentence(promise = 5, says = "TEAMS 0 .. 5, as they come: a KIND, STRONG (1 .. 9), a SEASON for which it pulls.")
    static void aTeamIsOneToNineStrong() {
        YearStretch x = new YearStretch();
        due("strong 0", x.team(0, 0, 3), BAD);
        due("strong 1", x.team(0, 1, 3), 0);
        due("strong 9", x.team(0, 9, 3), 1);
        due("strong 10", x.team(0, 10, 3), BAD);
        due("teams", x.count(0), 2);
    }

    // one team for season 4 in turn t, with o weeks there and d in the season from which it pulls then
    private static void duePull(int kind, int strong, int t, int o, int d, int want) {
        YearStretch x = new YearStretch();
        pass(x, t);
        int other = t % 2 == 0 ? 3 : 5;
        x.weeks(4, o);
        x.weeks(other, d);
        x.team(kind, strong, 4);
        String call = "kind " + kind + ", strong " + strong + ", turn " + t + ", own " + o + ", other " + d;
        due(call, x.about(0, 4), want);
        x.turn(1);
        int moved = Math.min(want, Math.min(d, 99 - o));
        due(call + ": own then", x.of(4, 0), o + moved);
        due(call + ": other then", x.of(other, 0), d - moved);
    }

    @Sentence(promise = {11, 14}, says = "KINDS, each under the one told, say how many WEEKS it pulls in TURN t, "
            + "by how many there are in its own SEASON (o) and in the other one (d):")
    static void kindsLookAtTheWeeksAsTheyPull() {
        YearStretch x = new YearStretch();
        x.weeks(3, 8);
        x.team(0, 1, 4);
        x.team(1, 4, 4);
        due("cooks, were they first", x.about(1, 4), 4);
        x.turn(1);
        // the plain team has made it 7 and 8 when the cooks look
        dueWeeks(x, "cooks behind a plain team", 7, 7, 7, 7, 8, 7, 7, 7);
        x.valley();
        x.weeks(3, 5);
        x.team(0, 1, 4);
        x.team(5, 2, 4);
        x.turn(1);
        // 4 are left when the greased ones look
        dueWeeks(x, "greased ones behind a plain team", 7, 7, 7, 4, 8, 7, 7, 7);
        x.valley();
        x.weeks(3, 4);
        x.team(0, 1, 3);
        x.team(5, 1, 4);
        x.turn(1);
        // a plain team has brought 5 there when the greased ones look
        dueWeeks(x, "greased ones behind a plain team", 7, 7, 6, 2, 10, 7, 7, 7);
    }

    @Sentence(promise = {11, 14}, says = "0 PLAIN: STRONG.")
    static void plainOnesPullTheirStrength() {
        duePull(0, 1, 0, 7, 7, 1);
        duePull(0, 9, 0, 7, 9, 9);
        duePull(0, 9, 1, 7, 20, 9);
        duePull(0, 9, 59, 50, 20, 9);
        duePull(0, 9, 60, 50, 20, 9);
        duePull(0, 9, 2, 7, 0, 9);
        duePull(0, 9, 3, 99, 99, 9);
    }

    @Sentence(promise = {11, 14}, says = "1 COOKS (under PLAIN): as PLAIN, if d is more than o, else 0.")
    static void cooksPullFromMoreOnly() {
        duePull(1, 4, 0, 7, 8, 4);
        duePull(1, 4, 0, 7, 7, 0);
        duePull(1, 4, 0, 7, 6, 0);
        duePull(1, 4, 1, 7, 8, 4);
        duePull(1, 4, 1, 7, 7, 0);
        duePull(1, 9, 0, 0, 1, 9);
        duePull(1, 9, 0, 0, 0, 0);
        duePull(1, 9, 1, 98, 99, 9);
        duePull(1, 9, 0, 99, 99, 0);
        duePull(1, 1, 3, 0, 99, 1);
    }

    @Sentence(promise = {11, 14}, says = "2 BOYS (under PLAIN): as PLAIN; twice, if t is odd.")
    static void boysPullTwiceInOddTurns() {
        duePull(2, 1, 0, 7, 20, 1);
        duePull(2, 1, 1, 7, 20, 2);
        duePull(2, 9, 0, 7, 20, 9);
        duePull(2, 9, 1, 7, 20, 18);
        duePull(2, 9, 2, 7, 20, 9);
        duePull(2, 9, 3, 7, 17, 18);
        duePull(2, 9, 60, 7, 20, 9);
        duePull(2, 9, 61, 7, 20, 18);
    }

    @Sentence(promise = {11, 14}, says = "3 HAIR (under PLAIN): 2 more than PLAIN.")
    static void hairPullsTwoMore() {
        duePull(3, 1, 0, 7, 20, 3);
        duePull(3, 9, 0, 7, 20, 11);
        duePull(3, 9, 1, 7, 20, 11);
        duePull(3, 9, 2, 7, 4, 11);
        duePull(3, 1, 3, 20, 3, 3);
    }

    @Sentence(promise = {11, 14}, says = "4 TIRED (under BOYS): BOYS less t by 4 left over (0 at least).")
    static void tiredOnesAreLessByTheTurnOverFour() {
        int[] want = {9, 17, 7, 15, 9, 17, 7, 15, 9};
        for (int t = 0; t < want.length; t++) {
            duePull(4, 9, t, 7, 30, want[t]);
        }
        duePull(4, 9, 59, 7, 30, 15);
        duePull(4, 9, 60, 7, 30, 9);
    }

    @Sentence(promise = {11, 14}, says = "4 TIRED (under BOYS): BOYS less t by 4 left over (0 at least).")
    static void tiredOnesPullNoneAtLeast() {
        int[] ofOne = {1, 1, 0, 0, 1, 1, 0, 0};
        int[] ofTwo = {2, 3, 0, 1, 2, 3, 0, 1};
        int[] ofThree = {3, 5, 1, 3, 3, 5, 1, 3};
        for (int t = 0; t < 8; t++) {
            duePull(4, 1, t, 7, 30, ofOne[t]);
            duePull(4, 2, t, 7, 30, ofTwo[t]);
            duePull(4, 3, t, 7, 30, ofThree[t]);
        }
    }

    @Sentence(promise = {11, 14}, says = "5 GREASED (under HAIR): as HAIR, if d is 5 or more, else 0.")
    static void greasedOnesPullFromFiveOrMore() {
        duePull(5, 1, 0, 7, 4, 0);
        duePull(5, 1, 0, 7, 5, 3);
        duePull(5, 1, 0, 7, 6, 3);
        duePull(5, 9, 1, 7, 4, 0);
        duePull(5, 9, 1, 7, 5, 11);
        duePull(5, 9, 0, 0, 0, 0);
        duePull(5, 9, 0, 99, 99, 11);
    }

    // ---- a turn

    @Sentence(promise = 11, says = "A TURN: by numbers each TEAM pulls from the SEASON one less than its own, "
            + "if the number of the TURN is even, from that one more, if it is odd, if there is such a one, and no PEG between:")
    static void theTeamsPullByTheirNumbers() {
        YearStretch x = new YearStretch();
        x.team(0, 9, 2);
        x.team(0, 9, 1);
        x.turn(1);
        dueWeeks(x, "2 ahead of 1", 0, 7, 14, 7, 7, 7, 7, 7);
        x.valley();
        x.team(0, 9, 1);
        x.team(0, 9, 2);
        x.turn(1);
        dueWeeks(x, "1 ahead of 2", 0, 5, 16, 7, 7, 7, 7, 7);
    }

    @Sentence(promise = 11, says = "A TURN: by numbers each TEAM pulls from the SEASON one less than its own,")
    static void allSixTeamsPull() {
        YearStretch x = new YearStretch();
        for (int i = 0; i < 6; i++) {
            x.team(0, 1 + i, 2 + i);
        }
        x.turn(1);
        dueWeeks(x, "six teams", 7, 6, 6, 6, 6, 6, 6, 13);
        x.valley();
        x.turn(1);
        dueWeeks(x, "no team", ALL_SEVEN);
    }

    @Sentence(promise = {11, 14}, says = "from the SEASON one less than its own, if the number of the TURN is even, "
            + "from that one more, if it is odd, if there is such a one,")
    static void theFirstSeasonPullsInOddTurnsOnly() {
        for (int t = 0; t < 4; t++) {
            YearStretch x = new YearStretch();
            x.team(0, 1, 0);
            pass(x, t);
            due("season 0 in turn " + t, x.about(0, 3), t % 2 == 0 ? NONE : 1);
            int had = x.of(0, 0);
            x.turn(1);
            due("season 0 behind turn " + t, x.of(0, 0), t % 2 == 0 ? had : had + 1);
        }
    }

    @Sentence(promise = {11, 14}, says = "from the SEASON one less than its own, if the number of the TURN is even, "
            + "from that one more, if it is odd, if there is such a one,")
    static void theLastSeasonPullsInEvenTurnsOnly() {
        for (int t = 0; t < 4; t++) {
            YearStretch x = new YearStretch();
            x.team(0, 1, 7);
            pass(x, t);
            due("season 7 in turn " + t, x.about(0, 3), t % 2 == 0 ? 6 : NONE);
            int had = x.of(7, 0);
            x.turn(1);
            due("season 7 behind turn " + t, x.of(7, 0), t % 2 == 0 ? had + 1 : had);
        }
    }

    @Sentence(promise = {11, 14}, says = "from the SEASON one less than its own, if the number of the TURN is even, "
            + "from that one more, if it is odd, if there is such a one,")
    static void theSeasonsNextToTheEndsPullInAllTurns() {
        YearStretch x = new YearStretch();
        x.team(0, 1, 1);
        x.team(0, 1, 6);
        due("season 1 in turn 0", x.about(0, 3), 0);
        due("season 6 in turn 0", x.about(1, 3), 5);
        x.turn(1);
        due("season 1 in turn 1", x.about(0, 3), 2);
        due("season 6 in turn 1", x.about(1, 3), 7);
        x.turn(1);
        dueWeeks(x, "behind both", 6, 9, 6, 7, 7, 6, 9, 6);
    }

    @Sentence(promise = {4, 11}, says = "if there is such a one, and no PEG between:")
    static void aPegBetweenHolds() {
        YearStretch x = new YearStretch();
        x.team(0, 2, 3);
        x.peg(2);
        x.turn(1);
        dueWeeks(x, "peg 2 in an even turn", ALL_SEVEN);
        x.turn(1);
        dueWeeks(x, "peg 2 in an odd turn", 7, 7, 7, 9, 5, 7, 7, 7);
        x.peg(2);
        x.peg(3);
        x.turn(1);
        dueWeeks(x, "peg 3 in an even turn", 7, 7, 5, 11, 5, 7, 7, 7);
        x.turn(1);
        dueWeeks(x, "peg 3 in an odd turn", 7, 7, 5, 11, 5, 7, 7, 7);
    }

    // a plain team of 9 for season 4, from season 3
    private static void dueMoved(int own, int there, int moved) {
        YearStretch x = new YearStretch();
        x.weeks(4, own);
        x.weeks(3, there);
        x.team(0, 9, 4);
        x.turn(1);
        due("own " + own + ", there " + there + ": own then", x.of(4, 0), own + moved);
        due("own " + own + ", there " + there + ": there then", x.of(3, 0), there - moved);
        due("all of them", x.count(3), 42 + own + there);
    }

    @Sentence(promise = 11, says = "so many WEEKS come from there to its own (no more than there are there; "
            + "no more than up to 99 in its own).")
    static void noMoreThanThereAre() {
        dueMoved(7, 0, 0);
        dueMoved(7, 1, 1);
        dueMoved(7, 8, 8);
        dueMoved(7, 9, 9);
        dueMoved(7, 10, 9);
        dueMoved(0, 99, 9);
        dueMoved(0, 0, 0);
    }

    @Sentence(promise = 11, says = "so many WEEKS come from there to its own (no more than there are there; "
            + "no more than up to 99 in its own).")
    static void noMoreThanUpTo99() {
        dueMoved(99, 50, 0);
        dueMoved(98, 50, 1);
        dueMoved(91, 50, 8);
        dueMoved(90, 50, 9);
        dueMoved(89, 50, 9);
        dueMoved(99, 99, 0);
        dueMoved(99, 0, 0);
        dueMoved(96, 2, 2);
        dueMoved(97, 2, 2);
        dueMoved(98, 2, 1);
    }

    @Sentence(promise = 11, says = "The TURN is one more.")
    static void eachTurnIsOneMore() {
        YearStretch x = new YearStretch();
        due("with no team", x.turn(1), 1);
        for (int i = 0; i < 6; i++) {
            x.team(i, 9, i);
        }
        due("with six teams", x.turn(1), 2);
        due("59 more", x.turn(59), 61);
    }

    // ---- works

    @Sentence(promise = 6, says = "WORKS 0 .. 5, as they come: a SEASON, WEEKS (1 .. 60):")
    static void sixWorksAsTheyCome() {
        YearStretch x = new YearStretch();
        for (int w = 0; w < 6; w++) {
            due("work", x.work(7 - w, 1 + w), w);
        }
        for (int s = 0; s < 8; s++) {
            due("works of season " + s, x.of(s, 3), s < 2 ? 0 : 1 << 7 - s);
        }
    }

    @Sentence(promise = 6, says = "WORKS 0 .. 5, as they come: a SEASON, WEEKS (1 .. 60):")
    static void aWorkWantsOneToSixtyWeeks() {
        YearStretch x = new YearStretch();
        due("0 weeks", x.work(3, 0), BAD);
        due("1 week", x.work(3, 1), 0);
        due("60 weeks", x.work(3, 60), 1);
        due("61 weeks", x.work(3, 61), BAD);
        due("works", x.count(1), 2);
    }

    @Sentence(promise = 17, says = "DONE, if the SEASON has as many or more.")
    static void aWorkIsDoneByAsManyOrMore() {
        int[][] rows = {{1, 0, 0}, {1, 1, 1}, {1, 2, 1}, {60, 59, 0}, {60, 60, 1}, {60, 61, 1}, {60, 99, 1}, {7, 6, 0}, {7, 7, 1}};
        for (int[] row : rows) {
            for (int s = 0; s < 8; s += 7) {
                YearStretch x = new YearStretch();
                x.weeks(s, row[1]);
                x.work(s, row[0]);
                due("a work of " + row[0] + " in season " + s + " of " + row[1], x.done(0), row[2]);
            }
        }
    }

    @Sentence(promise = {13, 16}, says = "FOLDED: a SEASON of 0 WEEKS.")
    static void aSeasonIsFoldedAtNoWeeks() {
        for (int s = 0; s < 8; s += 7) {
            YearStretch x = new YearStretch();
            due("of 7 weeks", x.of(s, 1), 0);
            x.weeks(s, 1);
            due("of 1 week", x.of(s, 1), 0);
            due("of 1 week", x.folded(0), 0);
            x.weeks(s, 0);
            due("of no weeks", x.of(s, 1), 1);
            due("of no weeks", x.folded(0), 1 << s);
        }
    }
}
