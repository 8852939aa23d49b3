// Each promise by its own words: one test for each sentence, or each edge of it, and for each number of a call
// what is just inside and just outside of its range.
final class CallSentences extends Boundary {
    private static final long NEW_DIGEST = mix(mix(1109, 0, 0, 0, 56, 0, 0, 0), 7, 7, 7, 7, 7, 7, 7, 7, 0, 0, 0, 0, 0, 0, 0, 0, 1);

    // six teams, six works, six measured, eight that may be undone, a full text
    private static YearStretch full() {
        YearStretch x = new YearStretch();
        for (int i = 0; i < 6; i++) {
            x.team(i, 9 - i, 7 - i);
            x.work(i, 60 - i);
            x.measured(20 - i, i, 99 - i);
        }
        type(x, " ".repeat(150));
        x.turn(8);
        return x;
    }

    private static YearStretch withTeams(int teams) {
        YearStretch x = new YearStretch();
        for (int i = 0; i < teams; i++) {
            x.team(0, 1 + i, 1 + i);
        }
        return x;
    }

    private static YearStretch withWorks(int works) {
        YearStretch x = new YearStretch();
        for (int i = 0; i < works; i++) {
            x.work(i, 1);
        }
        return x;
    }

    // ---- a valley

    @Sentence(promise = 1, says = "As told; no TEAMS, WORKS.")
    static void aNewObject() {
        YearStretch x = new YearStretch();
        due("digest", x.digest(), NEW_DIGEST);
        for (int what = 0; what < 7; what++) {
            due("count(" + what + ")", x.count(what), what == 3 ? 56 : 0);
        }
        for (int s = 0; s < 8; s++) {
            due("teams of season " + s, x.of(s, 2), 0);
            due("works of season " + s, x.of(s, 3), 0);
        }
        dueFraction(x, "new", 0, 1);
        dueStatus(x, "new", 0, 0, 0);
        due("undo", x.undo(), NO);
        due("from(0)", x.from(0), NO);
        due("from(1)", x.from(1), NO);
        due("read", x.read(), -10);
    }

    @Sentence(promise = 1, says = "As told; no TEAMS, WORKS.")
    static void twoNewObjectsAreApart() {
        YearStretch x = new YearStretch();
        YearStretch y = new YearStretch();
        x.weeks(0, 1);
        x.peg(0);
        x.team(0, 1, 0);
        x.work(0, 1);
        x.measured(0, 0, 0);
        x.type('v');
        x.odds(0, 0, 0);
        x.image(0);
        x.peg(9);
        due("the other one", y.digest(), NEW_DIGEST);
        due("its image", y.from(0), NO);
        dueStatus(y, "the other one", 0, 1, 0);
    }

    @Sentence(promise = 1, says = "As told; no TEAMS, WORKS.")
    static void theConstants() {
        due("NONE", YearStretch.NONE, -1);
        due("BAD", YearStretch.BAD, -2);
        due("NO", YearStretch.NO, -3);
        due("FULL", YearStretch.FULL, -4);
    }

    @Sentence(promise = 2, says = "All as at first (but for IMAGES, THE TEXT, THE FRACTION, STATUS): how many TEAMS there were.")
    static void valleyOfNoTeamAndOfSix() {
        YearStretch x = new YearStretch();
        due("no team", x.valley(), 0);
        due("digest", x.digest(), NEW_DIGEST);
        x = full();
        due("six teams", x.valley(), 6);
        due("none behind it", x.valley(), 0);
        x.clear();
        due("digest", x.digest(), NEW_DIGEST);
        due("nothing to undo", x.undo(), NO);
        due("a team", x.team(0, 1, 0), 0);
        due("a work", x.work(0, 1), 0);
        due("a measured", x.measured(0, 0, 0), 1);
    }

    @Sentence(promise = 2, says = "(but for IMAGES, THE TEXT, THE FRACTION, STATUS):")
    static void valleyLeavesImagesTextFractionAndStatus() {
        YearStretch x = full();
        x.odds(7, 0, 5);
        x.image(1);
        x.peg(7);
        x.from(0);
        x.type(0);
        x.valley();
        due("the text", x.count(6), 150);
        dueFraction(x, "valley", 1, 1);
        dueStatus(x, "valley", 1, 1, 1);
        due("the image that was not kept", x.from(0), NO);
        due("the image", x.from(1), 1);
        due("its teams", x.count(0), 6);
        due("what it may undo", x.count(5), 8);
    }

    @Sentence(promise = 3, says = "WEEKS of a SEASON: what they were. BAD.")
    static void weeksAnswersWhatTheyWere() {
        YearStretch x = new YearStretch();
        due("from 7 to 0", x.weeks(0, 0), 7);
        due("from 0 to 99", x.weeks(0, 99), 0);
        due("from 99 to 99", x.weeks(0, 99), 99);
        due("from 99 to 1", x.weeks(0, 1), 99);
        due("all may be undone", x.count(5), 4);
        dueWeeks(x, "only the first", 1, 7, 7, 7, 7, 7, 7, 7);
        x.weeks(7, 2);
        dueWeeks(x, "and the last", 1, 7, 7, 7, 7, 7, 7, 2);
    }

    @Sentence(promise = 3, says = "WEEKS of a SEASON: what they were. BAD.")
    static void weeksWithBadNumbers() {
        dueRange("weeks(#, 5)", (x, n) -> x.weeks(n, 5), 0, 7);
        dueRange("weeks(5, #)", (x, n) -> x.weeks(5, n), 0, 99);
    }

    @Sentence(promise = 4, says = "A PEG is driven, if there is none, else drawn: whether there is one then (1, 0). BAD.")
    static void aPegIsDrivenThenDrawn() {
        YearStretch x = new YearStretch();
        for (int i = 0; i < 7; i += 6) {
            due("driven", x.peg(i), 1);
            due("drawn", x.peg(i), 0);
            due("driven again", x.peg(i), 1);
        }
        long h = mix(1109, 0, 0, 0, 56, 0, 6, 0, 7, 7, 7, 7, 7, 7, 7, 7);
        due("digest", x.digest(), mix(h, 1, 0, 0, 0, 0, 0, 1, 0, 1));
    }

    @Sentence(promise = 4, says = "A PEG is driven, if there is none, else drawn: whether there is one then (1, 0). BAD.")
    static void pegWithABadNumber() {
        dueRange("peg(#)", (x, n) -> x.peg(n), 0, 6);
        dueRefused("peg(#)", Boundary::ground, (x, n) -> x.peg(n), BAD, 31, 32, 33, 64, -32);
    }

    @Sentence(promise = 5, says = "A TEAM: its number. BAD; FULL: 6.")
    static void aSeventhTeamIsRefused() {
        YearStretch x = new YearStretch();
        for (int i = 0; i < 6; i++) {
            due("team", x.team(i, 1 + i, i), i);
        }
        due("a 7th", x.team(0, 1, 0), FULL);
        due("an 8th", x.team(5, 9, 7), FULL);
        due("teams", x.count(0), 6);
        dueStatus(x, "team", 0, 0, 2);
        x.valley();
        due("behind valley", x.team(0, 1, 0), 0);
    }

    @Sentence(promise = 5, says = "A TEAM: its number. BAD; FULL: 6.")
    static void teamWithBadNumbers() {
        dueRange("team(#, 5, 5)", (x, n) -> x.team(n, 5, 5), 0, 5);
        dueRange("team(5, #, 5)", (x, n) -> x.team(5, n, 5), 1, 9);
        dueRange("team(5, 5, #)", (x, n) -> x.team(5, 5, n), 0, 7);
    }

    @Sentence(promise = 6, says = "A WORK: its number. BAD; FULL: 6.")
    static void aSeventhWorkIsRefused() {
        YearStretch x = new YearStretch();
        for (int i = 0; i < 6; i++) {
            due("work", x.work(7, 60), i);
        }
        due("a 7th", x.work(0, 1), FULL);
        due("works", x.count(1), 6);
        due("none of season 0", x.of(0, 3), 0);
        dueStatus(x, "work", 0, 0, 1);
        x.idle();
        due("behind idle", x.work(0, 1), 0);
    }

    @Sentence(promise = 6, says = "A WORK: its number. BAD; FULL: 6.")
    static void workWithBadNumbers() {
        dueRange("work(#, 5)", (x, n) -> x.work(n, 5), 0, 7);
        dueRange("work(5, #)", (x, n) -> x.work(5, n), 1, 60);
    }

    @Sentence(promise = 7, says = "No WORKS: how many there were.")
    static void idleOfNoWorkAndOfSix() {
        YearStretch x = new YearStretch();
        due("no work", x.idle(), 0);
        x = full();
        int undone = x.count(5);
        due("six works", x.idle(), 6);
        due("none", x.count(1), 0);
        due("none behind it", x.idle(), 0);
        due("teams stay", x.count(0), 6);
        due("measured stay", x.count(4), 6);
        due("what may be undone stays", x.count(5), undone);
        for (int s = 0; s < 8; s++) {
            due("works of season " + s, x.of(s, 3), 0);
        }
        due("when of one that was", x.when(0), OTHER_BAD);
    }

    @Sentence(promise = 8, says = "A byte (0 .. 127) comes behind THE TEXT: how many it has. BAD; FULL.")
    static void aTextOf150Bytes() {
        YearStretch x = new YearStretch();
        for (int i = 1; i <= 150; i++) {
            due("byte " + i, x.type(i % 128), i);
        }
        due("a 151st", x.type(0), FULL);
        due("a 152nd", x.type(127), FULL);
        due("bytes", x.count(6), 150);
        dueStatus(x, "type", 0, 0, 2);
        x.clear();
        due("behind clear", x.type(0), 1);
    }

    @Sentence(promise = 8, says = "A byte (0 .. 127) comes behind THE TEXT: how many it has. BAD; FULL.")
    static void typeWithABadByte() {
        dueRange("type(#)", (x, n) -> x.type(n), 0, 127);
        dueRefused("type(#)", Boundary::ground, (x, n) -> x.type(n), BAD, -128, 255, 256 + ';', 65536 + ';');
    }

    @Sentence(promise = 8, says = "A byte (0 .. 127) comes behind THE TEXT: how many it has. BAD; FULL.")
    static void aByteComesBehindTheOthers() {
        YearStretch x = new YearStretch();
        type(x, "valley");
        due("read ahead of it", x.read(), -16);
        due("type", x.type(';'), 7);
        due("read behind it", x.read(), 1);
        due("the text is still there", x.type('x'), 8);
        due("read", x.read(), -17);
    }

    @Sentence(promise = 9, says = "THE TEXT is empty: how many it had.")
    static void clearOfAnEmptyAndOfAFullText() {
        YearStretch x = new YearStretch();
        due("empty", x.clear(), 0);
        x.type(0);
        due("one byte", x.clear(), 1);
        due("empty again", x.clear(), 0);
        x = full();
        due("full", x.clear(), 150);
        due("bytes", x.count(6), 0);
        due("read", x.read(), -10);
        type(x, "valley;");
        due("nothing is left of it", x.read(), 1);
    }

    @Sentence(promise = 10, says = "THE VALLEY is read: how many ITEMS. -10 less the FAULT: all stays.")
    static void readAnswersItsItems() {
        YearStretch x = new YearStretch();
        type(x, "valley;");
        due("one", x.read(), 1);
        for (int i = 0; i < 28; i++) {
            type(x, "peg 3");
            due("not ended", x.read(), -10 - x.count(6));
            if (x.count(6) == 150) {
                break;
            }
            x.type(';');
            due("items", x.read(), i + 2);
        }
    }

    @Sentence(promise = 10, says = "THE VALLEY is read: how many ITEMS. -10 less the FAULT: all stays.")
    static void allStaysBehindAFault() {
        String[] texts = {"", "x", "valley", "valley;weeks 0 50;peg 0;team 0 1 0;work 0 1;x", "valley;valley;"};
        for (String text : texts) {
            YearStretch x = ground();
            YearStretch like = ground();
            x.clear();
            like.clear();
            type(x, text);
            type(like, text);
            due("a fault in '" + text + "'", x.read() <= -10 ? 1 : 0, 1);
            dueStatus(x, "a fault is not refused", 0, 0, 0);
            dueSame("read of '" + text + "'", x, like);
        }
    }

    @Sentence(promise = 10, says = "-10 less the FAULT: all stays.")
    static void theLeastAndTheGreatestFault() {
        YearStretch x = new YearStretch();
        due("at 0", x.read(), -10);
        type(x, "valley;" + " ".repeat(143));
        due("no fault", x.read(), 1);
        x.clear();
        type(x, "valley" + " ".repeat(144));
        due("at 150", x.read(), -160);
    }

    // ---- turns

    @Sentence(promise = 11, says = "n TURNS go by (1 .. 60), each of which may be undone: the TURN. BAD.")
    static void oneTurnAndSixty() {
        YearStretch x = new YearStretch();
        due("one", x.turn(1), 1);
        due("sixty", x.turn(60), 61);
        due("the turn", x.count(2), 61);
        x = new YearStretch();
        x.weeks(1, 60);
        x.team(0, 1, 0);
        x.turn(60);
        due("a week by each odd turn", x.of(0, 0), 37);
        due("a week by each odd turn", x.of(1, 0), 30);
    }

    @Sentence(promise = 11, says = "n TURNS go by (1 .. 60), each of which may be undone: the TURN. BAD.")
    static void turnWithABadNumber() {
        dueRange("turn(#)", (x, n) -> x.turn(n), 1, 60);
    }

    @Sentence(promise = {11, 12}, says = "n TURNS go by (1 .. 60), each of which may be undone: the TURN. BAD.")
    static void eachOfTheTurnsMayBeUndone() {
        for (int n = 7; n <= 9; n++) {
            YearStretch x = new YearStretch();
            x.team(0, 1, 0);
            x.turn(n);
            due("that may be undone of " + n, x.count(5), Math.min(8, n));
            for (int t = n - 1; t >= Math.max(0, n - 8); t--) {
                due("undo", x.undo(), t);
                due("weeks", x.of(0, 0), 7 + t / 2);
            }
            due("no more", x.undo(), NO);
        }
    }

    @Sentence(promise = 12, says = "UNDO: the TURN then. NO: none may be.")
    static void undoOfNone() {
        YearStretch x = new YearStretch();
        due("a new one", x.undo(), NO);
        due("once more", x.undo(), NO);
        dueStatus(x, "undo", 0, 2, 0);
        x.turn(2);
        due("undo", x.undo(), 1);
        due("undo", x.undo(), 0);
        due("behind the last", x.undo(), NO);
        dueStatus(x, "undo", 0, 3, 0);
        due("digest", x.digest(), NEW_DIGEST);
    }

    @Sentence(promise = 12, says = "UNDO: the TURN then. NO: none may be.")
    static void undoBehindValleyAndRead() {
        YearStretch x = new YearStretch();
        x.turn(3);
        x.valley();
        due("behind valley", x.undo(), NO);
        x.turn(3);
        type(x, "valley;");
        x.read();
        due("behind read", x.undo(), NO);
    }

    @Sentence(promise = 13, says = "Of a SEASON: WEEKS (0), whether FOLDED (1; 1, 0), TEAMS that pull for it (2; bits), WORKS in it (3; bits). BAD.")
    static void ofASeasonWithNoneAndWithSix() {
        for (int s = 0; s < 8; s += 7) {
            YearStretch x = new YearStretch();
            due("no teams", x.of(s, 2), 0);
            due("no works", x.of(s, 3), 0);
            for (int i = 0; i < 6; i++) {
                x.team(0, 1, s);
                x.work(s, 1);
            }
            due("six teams", x.of(s, 2), 63);
            due("six works", x.of(s, 3), 63);
            due("no teams elsewhere", x.of(7 - s, 2), 0);
            due("no works elsewhere", x.of(7 - s, 3), 0);
            x.weeks(s, 99);
            due("weeks", x.of(s, 0), 99);
            due("not folded", x.of(s, 1), 0);
            x.weeks(s, 0);
            due("weeks", x.of(s, 0), 0);
            due("folded", x.of(s, 1), 1);
        }
    }

    @Sentence(promise = 13, says = "TEAMS that pull for it (2; bits), WORKS in it (3; bits). BAD.")
    static void ofASeasonByTheFirstAndTheLastTeamAndWork() {
        YearStretch x = new YearStretch();
        for (int i = 0; i < 6; i++) {
            x.team(0, 1, i == 0 || i == 5 ? 4 : 2);
            x.work(i == 0 || i == 5 ? 3 : 6, 1);
        }
        due("teams of season 4", x.of(4, 2), 33);
        due("teams of season 2", x.of(2, 2), 30);
        due("works of season 3", x.of(3, 3), 33);
        due("works of season 6", x.of(6, 3), 30);
    }

    @Sentence(promise = 13, says = "Of a SEASON: WEEKS (0), whether FOLDED (1; 1, 0), TEAMS that pull for it (2; bits), WORKS in it (3; bits). BAD.")
    static void ofWithBadNumbers() {
        dueRange("of(#, 0)", (x, n) -> x.of(n, 0), 0, 7);
        dueRange("of(#, 3)", (x, n) -> x.of(n, 3), 0, 7);
        dueRange("of(0, #)", (x, n) -> x.of(0, n), 0, 3);
    }

    @Sentence(promise = 14, says = "Of a TEAM: KIND (0), STRONG (1), SEASON (2), from which it pulls now (3; NONE: from none), ")
    static void aboutTheFirstAndTheLastOfSix() {
        YearStretch x = new YearStretch();
        x.team(5, 9, 7);
        for (int i = 1; i < 5; i++) {
            x.team(1, 2, 3);
        }
        x.team(0, 1, 0);
        int[] first = {5, 9, 7, 6, 11};
        int[] last = {0, 1, 0, NONE, 0};
        for (int what = 0; what < 5; what++) {
            due("about(0, " + what + ")", x.about(0, what), first[what]);
            due("about(5, " + what + ")", x.about(5, what), last[what]);
        }
        x.turn(1);
        due("the first in an odd turn", x.about(0, 3), NONE);
        due("the last in an odd turn", x.about(5, 3), 1);
    }

    @Sentence(promise = 14, says = "from which it pulls now (3; NONE: from none),")
    static void aboutOneThatIsPegged() {
        YearStretch x = new YearStretch();
        x.team(3, 9, 1);
        x.peg(0);
        due("pegged from 0", x.about(0, 3), NONE);
        due("none", x.about(0, 4), 0);
        x.turn(1);
        due("from 2", x.about(0, 3), 2);
        due("11", x.about(0, 4), 11);
        x.peg(1);
        due("pegged from 2", x.about(0, 3), NONE);
        due("none", x.about(0, 4), 0);
    }

    @Sentence(promise = 14, says = "how many WEEKS it would pull now, were it first (4; 0: from none; as told, whether there are as many or not). BAD: -10.")
    static void aboutMoreThanThereAre() {
        YearStretch x = new YearStretch();
        x.team(0, 9, 4);
        x.team(3, 9, 4);
        x.weeks(3, 0);
        due("none there", x.about(0, 4), 9);
        due("none there", x.about(1, 4), 11);
        x.weeks(3, 8);
        due("8 there", x.about(0, 4), 9);
        x.weeks(4, 99);
        due("no room", x.about(0, 4), 9);
        due("were it first, though it is the second", x.about(1, 4), 11);
    }

    @Sentence(promise = 14, says = "BAD: -10.")
    static void aboutWithBadNumbers() {
        dueRange("about(#, 0)", () -> withTeams(6), (x, n) -> x.about(n, 0), -10, 0, 5);
        dueRange("about(#, 4)", () -> withTeams(1), (x, n) -> x.about(n, 4), -10, 0, 0);
        dueRange("about(0, #)", Boundary::ground, (x, n) -> x.about(0, n), -10, 0, 4);
        dueRefused("about(#, 2)", () -> withTeams(0), (x, n) -> x.about(n, 2), -10, 0, -1, 1, 5);
    }

    // ---- what comes

    @Sentence(promise = 15, says = "THEN: WEEKS. BAD.")
    static void thenWithBadNumbers() {
        dueRange("then(#, 5)", (x, n) -> x.then(n, 5), 0, 60);
        dueRange("then(5, #)", (x, n) -> x.then(5, n), 0, 7);
    }

    @Sentence(promise = 15, says = "THEN: WEEKS. BAD.")
    static void thenOfWeeksAtNoneAndAt99() {
        YearStretch x = new YearStretch();
        x.weeks(3, 99);
        x.weeks(4, 90);
        x.team(0, 9, 4);
        due("up to 99", x.then(1, 4), 99);
        due("no more", x.then(60, 4), 99);
        x.weeks(3, 9);
        x.weeks(4, 0);
        due("down to none", x.then(1, 3), 0);
        due("no fewer", x.then(60, 3), 0);
    }

    @Sentence(promise = 16, says = "THEN: FOLDED, as bits. BAD.")
    static void foldedWithABadNumber() {
        dueRange("folded(#)", (x, n) -> x.folded(n), 0, 60);
    }

    @Sentence(promise = 16, says = "THEN: FOLDED, as bits. BAD.")
    static void foldedOfTheFirstAndTheLast() {
        YearStretch x = new YearStretch();
        x.weeks(0, 1);
        x.weeks(7, 1);
        x.team(0, 1, 1);
        x.team(0, 1, 6);
        due("now", x.folded(0), 0);
        due("behind 1", x.folded(1), 1);
        due("behind 2", x.folded(2), 129);
    }

    @Sentence(promise = 17, says = "WORKS DONE, as bits. BAD.")
    static void doneWithABadNumber() {
        dueRange("done(#)", (x, n) -> x.done(n), 0, 60);
    }

    @Sentence(promise = 17, says = "WORKS DONE, as bits. BAD.")
    static void doneOfTheFirstAndTheLastOfSix() {
        YearStretch x = new YearStretch();
        int[] weeks = {7, 8, 60, 8, 9, 7};
        for (int i = 0; i < 6; i++) {
            x.work(i, weeks[i]);
        }
        due("the first and the last", x.done(0), 33);
        x.idle();
        due("none", x.done(0), 0);
    }

    @Sentence(promise = 18, says = "WHEN (w NONE: ALL). NONE. BAD: -10.")
    static void whenWithABadNumber() {
        dueRange("when(#)", () -> withWorks(6), (x, n) -> x.when(n), -10, -1, 5);
        dueRange("when(#)", () -> withWorks(1), (x, n) -> x.when(n), -10, -1, 0);
        dueRange("when(#)", () -> withWorks(0), (x, n) -> x.when(n), -10, -1, -1);
    }

    @Sentence(promise = 18, says = "WHEN (w NONE: ALL). NONE. BAD: -10.")
    static void whenOfOneIsNotWhenOfAll() {
        YearStretch x = new YearStretch();
        x.team(0, 1, 1);
        x.work(1, 8);
        x.work(1, 9);
        x.work(1, 99 - 39);
        due("the first", x.when(0), 1);
        due("the second", x.when(1), 2);
        due("the third", x.when(2), NONE);
        due("all", x.when(NONE), NONE);
        dueStatus(x, "none is not refused", 0, 0, 0);
    }

    @Sentence(promise = 19, says = "HANDS, as bits. NONE. BAD.")
    static void handsWithABadNumber() {
        dueRange("hands(#)", (x, n) -> x.hands(n), 0, 20);
    }

    @Sentence(promise = 19, says = "HANDS, as bits. NONE. BAD.")
    static void handsByTheLastTeamAlone() {
        YearStretch x = withTeams(6);
        x.work(6, 13);
        due("the last alone", x.hands(1), 32);
        x.work(1, 8);
        due("the first and the last", x.hands(1), 33);
        x.work(0, 7);
        due("none", x.hands(1), NONE);
        dueStatus(x, "none is not refused", 0, 0, 0);
    }

    @Sentence(promise = 20, says = "PEG IT: 0 .. 7. BAD.")
    static void pegItWithBadNumbers() {
        dueRange("pegIt(#, 5)", (x, n) -> x.pegIt(n, 5), 0, 7);
        dueRange("pegIt(5, #)", (x, n) -> x.pegIt(5, n), 0, 20);
    }

    @Sentence(promise = 20, says = "PEG IT: 0 .. 7. BAD.")
    static void pegItAnswersEachPeg() {
        for (int i = 0; i < 7; i++) {
            YearStretch x = new YearStretch();
            x.team(0, 3, i + 1);
            due("peg " + i + " keeps what season " + i + " has", x.pegIt(i, 1), i);
            x.peg(i);
            due("peg " + i + " drawn brings more to season " + (i + 1), x.pegIt(i + 1, 1), i);
        }
    }

    @Sentence(promise = 21, says = "CHOOSE, as bits. BAD: alike, too.")
    static void chooseWithBadNumbers() {
        dueRange("choose(#, 5, 1)", () -> withTeams(6), (x, n) -> x.choose(n, 5, 1), BAD, 0, 4);
        dueRange("choose(0, #, 1)", () -> withTeams(6), (x, n) -> x.choose(0, n, 1), BAD, 1, 5);
        dueRange("choose(1, 0, #)", (x, n) -> x.choose(1, 0, n), 1, 6);
        dueRefused("choose(0, 1, #)", () -> withTeams(1), (x, n) -> x.choose(0, 1, n), BAD, 1, 6);
        dueRefused("choose(1, 0, #)", () -> withTeams(1), (x, n) -> x.choose(1, 0, n), BAD, 1, 6);
        dueRefused("choose(0, 0, #)", () -> withTeams(0), (x, n) -> x.choose(0, 0, n), BAD, 1, 6);
    }

    @Sentence(promise = 21, says = "CHOOSE, as bits. BAD: alike, too.")
    static void alikeIsBad() {
        for (int i = 0; i < 6; i++) {
            int team = i;
            dueRefused("choose(" + i + ", " + i + ", #)", () -> withTeams(6), (x, n) -> x.choose(team, team, n), BAD, 1, 6);
        }
    }

    @Sentence(promise = 22, says = "DUE. NONE. BAD.")
    static void dueWithABadNumber() {
        dueRange("due(#)", (x, n) -> x.due(n), 0, 800);
        YearStretch x = new YearStretch();
        due("none", x.due(56), NONE);
        dueStatus(x, "none is not refused", 0, 0, 0);
    }

    @Sentence(promise = 23, says = "AGE. BAD.")
    static void ageWithBadNumbers() {
        dueRange("age(#, 5)", (x, n) -> x.age(n, 5), 0, 255);
        dueRange("age(5, #)", (x, n) -> x.age(5, n), 0, 60);
        dueRefused("age(#, 0)", Boundary::ground, (x, n) -> x.age(n, 0), BAD, 256, -1);
    }

    @Sentence(promise = 24, says = "AGAIN. NONE.")
    static void againOfNone() {
        YearStretch x = new YearStretch();
        x.team(0, 1, 1);
        due("never", x.again(), NONE);
        dueStatus(x, "none is not refused", 0, 0, 0);
        x.peg(0);
        x.peg(1);
        due("pegged on both sides", x.again(), 1);
    }

    // ---- what was measured

    @Sentence(promise = 25, says = "MEASURED: how many there are. BAD; FULL: 6.")
    static void aSeventhMeasuredIsRefused() {
        YearStretch x = new YearStretch();
        for (int i = 1; i <= 6; i++) {
            due("measured", x.measured(0, 0, 7), i);
        }
        due("a 7th", x.measured(0, 0, 7), FULL);
        due("measured", x.count(4), 6);
        dueStatus(x, "measured", 0, 0, 1);
        x.forget();
        due("behind forget", x.measured(20, 7, 99), 1);
    }

    @Sentence(promise = 25, says = "MEASURED: how many there are. BAD; FULL: 6.")
    static void measuredWithBadNumbers() {
        dueRange("measured(#, 5, 5)", (x, n) -> x.measured(n, 5, 5), 0, 20);
        dueRange("measured(5, #, 5)", (x, n) -> x.measured(5, n, 5), 0, 7);
        dueRange("measured(5, 5, #)", (x, n) -> x.measured(5, 5, n), 0, 99);
    }

    @Sentence(promise = 26, says = "No MEASURED: how many there were.")
    static void forgetOfNoneAndOfSix() {
        YearStretch x = new YearStretch();
        due("none", x.forget(), 0);
        x = full();
        int undone = x.count(5);
        due("six", x.forget(), 6);
        due("none", x.count(4), 0);
        due("none behind it", x.forget(), 0);
        due("teams stay", x.count(0), 6);
        due("works stay", x.count(1), 6);
        due("what may be undone stays", x.count(5), undone);
        due("all kinds again", x.is(0), 63);
    }

    @Sentence(promise = 27, says = "IS, as bits. BAD.")
    static void isWithABadNumber() {
        dueRange("is(#)", () -> withTeams(6), (x, n) -> x.is(n), BAD, 0, 5);
        dueRange("is(#)", () -> withTeams(1), (x, n) -> x.is(n), BAD, 0, 0);
        dueRefused("is(#)", () -> withTeams(0), (x, n) -> x.is(n), BAD, 0, -1, 1);
    }

    @Sentence(promise = 27, says = "IS, as bits. BAD.")
    static void isOfEachKindAlone() {
        int[] weeks = {11, 7, 13, 15, 12, 15};
        for (int kind = 0; kind < 6; kind++) {
            YearStretch x = new YearStretch();
            x.team(5 - kind, 2, 1);
            x.measured(2, 1, weeks[kind]);
            // hair and greased ones are told apart behind 3: greased ones pull from no 3
            if (kind == 3 || kind == 5) {
                x.measured(3, 0, kind == 3 ? 0 : 3);
            }
            due("kind " + kind, x.is(0), 1 << kind);
            due("its kind stays", x.about(0, 0), 5 - kind);
        }
    }

    @Sentence(promise = 28, says = "MEASURE NEXT. NONE. BAD.")
    static void nextWithBadNumbers() {
        dueRange("next(#, 5)", () -> withTeams(6), (x, n) -> x.next(n, 5), BAD, 0, 5);
        dueRange("next(#, 0)", () -> withTeams(1), (x, n) -> x.next(n, 0), BAD, 0, 0);
        dueRange("next(0, #)", () -> withTeams(1), (x, n) -> x.next(0, n), BAD, 0, 20);
        dueRefused("next(#, 5)", () -> withTeams(0), (x, n) -> x.next(n, 5), BAD, 0, -1, 1);
    }

    @Sentence(promise = 28, says = "MEASURE NEXT. NONE. BAD.")
    static void nextOfNoKindIsNotRefused() {
        YearStretch x = withTeams(1);
        x.measured(0, 0, 99);
        due("none", x.next(0, 5), NONE);
        dueStatus(x, "none is not refused", 0, 0, 0);
        due("bad ahead of none", x.next(0, 21), BAD);
        due("bad ahead of none", x.next(1, 5), BAD);
        dueStatus(x, "bad", 2, 0, 0);
    }

    @Sentence(promise = 29, says = "WANTS, as bits. BAD.")
    static void wantsWithABadNumber() {
        dueRange("wants(#)", () -> withTeams(6), (x, n) -> x.wants(n), BAD, 0, 5);
        dueRange("wants(#)", () -> withTeams(1), (x, n) -> x.wants(n), BAD, 0, 0);
        dueRefused("wants(#)", () -> withTeams(0), (x, n) -> x.wants(n), BAD, 0, -1, 1);
    }

    @Sentence(promise = 29, says = "WANTS, as bits. BAD.")
    static void wantsOfEachSeasonAlone() {
        for (int s = 0; s < 8; s++) {
            YearStretch x = new YearStretch();
            x.team(0, 2, 7 - s);
            // season 0 is pulled for in turn 1, the others in turn 0
            x.measured(s == 0 ? 2 : 1, s, 9);
            due("season " + s, x.wants(0), 1 << s);
            due("its season stays", x.about(0, 2), 7 - s);
        }
    }

    @Sentence(promise = 30, says = "ODDS are THE FRACTION: 1. BAD.")
    static void oddsWithBadNumbers() {
        dueRange("odds(#, 5, 5)", (x, n) -> x.odds(n, 5, 5), 0, 7);
        dueRange("odds(5, #, 5)", (x, n) -> x.odds(5, n, 5), 0, 99);
        dueRange("odds(5, 5, #)", (x, n) -> x.odds(5, 5, n), 0, 10);
    }

    @Sentence(promise = 30, says = "ODDS are THE FRACTION: 1. BAD.")
    static void oddsAnswerOneWhateverTheChance() {
        YearStretch x = withTeams(1);
        due("never", x.odds(7, 99, 5), 1);
        dueFraction(x, "never", 0, 1);
        due("always", x.odds(7, 0, 5), 1);
        dueFraction(x, "always", 1, 1);
        due("by half", x.odds(1, 8, 5), 1);
        dueFraction(x, "by half", 1, 2);
        due("refused", x.odds(8, 8, 5), BAD);
        dueFraction(x, "refused", 1, 2);
        due("nothing else is changed", x.count(2), 0);
        dueWeeks(x, "nothing else is changed", 7, 7, 7, 7, 7, 7, 7, 7);
    }

    @Sentence(promise = 31, says = "YEARS. BAD.")
    static void yearsWithBadNumbers() {
        dueRange("years(#, 5, 5)", (x, n) -> x.years(n, 5, 5), 0, 999999);
        dueRange("years(5, #, 5)", (x, n) -> x.years(5, n, 5), 0, 60);
        dueRange("years(5, 5, #)", (x, n) -> x.years(5, 5, n), 0, 100);
    }

    // ---- what there is

    @Sentence(promise = 32, says = "THE FRACTION: above (0), below (1). BAD.")
    static void partWithABadNumber() {
        dueRange("part(#)", (x, n) -> x.part(n), 0, 1);
        YearStretch x = ground();
        due("above", x.part(0), 3);
        due("below", x.part(1), 10);
    }

    @Sentence(promise = 33, says = "An IMAGE is kept: 1. BAD.")
    static void imageWithABadNumber() {
        dueRange("image(#)", (x, n) -> x.image(n), 0, 1);
    }

    @Sentence(promise = 33, says = "An IMAGE is kept: 1. BAD.")
    static void anImageTakesThePlaceOfTheOneBefore() {
        YearStretch x = new YearStretch();
        x.weeks(0, 1);
        due("image(0)", x.image(0), 1);
        x.weeks(0, 2);
        due("image(1)", x.image(1), 1);
        x.weeks(0, 3);
        due("image(0) again", x.image(0), 1);
        x.weeks(0, 4);
        x.from(1);
        due("image 1", x.of(0, 0), 2);
        x.from(0);
        due("image 0", x.of(0, 0), 3);
        due("what may be undone", x.count(5), 3);
        x.undo();
        due("undone", x.of(0, 0), 2);
    }

    @Sentence(promise = 34, says = "It goes on from an IMAGE: 1. BAD; NO: none was kept.")
    static void fromAnImageThatWasNeverKept() {
        YearStretch x = new YearStretch();
        due("from(0)", x.from(0), NO);
        due("from(1)", x.from(1), NO);
        x.image(1);
        due("from(0)", x.from(0), NO);
        due("from(1)", x.from(1), 1);
        x.image(0);
        due("from(0)", x.from(0), 1);
        dueStatus(x, "from", 0, 3, 0);
        YearStretch y = new YearStretch();
        y.image(0);
        due("from(1)", y.from(1), NO);
        due("from(0)", y.from(0), 1);
    }

    @Sentence(promise = 34, says = "It goes on from an IMAGE: 1. BAD; NO: none was kept.")
    static void fromWithABadNumber() {
        dueRefused("from(#)", Boundary::ground, (x, n) -> x.from(n), BAD, -1, 2, 256, -256, Integer.MIN_VALUE, Integer.MAX_VALUE);
        dueRefused("from(#)", YearStretch::new, (x, n) -> x.from(n), BAD, -1, 2);
    }

    @Sentence(promise = 34, says = "It goes on from an IMAGE: 1. BAD; NO: none was kept.")
    static void fromAnImageOfAFullValley() {
        YearStretch x = full();
        long kept = x.digest();
        x.image(1);
        x.valley();
        due("from(1)", x.from(1), 1);
        due("digest", x.digest(), kept);
        due("a 7th team", x.team(0, 1, 0), FULL);
        due("a 7th work", x.work(0, 1), FULL);
        due("a 7th measured", x.measured(0, 0, 0), FULL);
        for (int t = 7; t >= 0; t--) {
            due("undo", x.undo(), t);
        }
        due("no more", x.undo(), NO);
    }

    @Sentence(promise = 35, says = "STATUS: BAD (0), NO (1), FULL (2). -1: another what (counts as BAD).")
    static void statusOfAnother() {
        dueRange("status(#)", Boundary::ground, (x, n) -> x.status(n) == -1 ? BAD : 0, BAD, 0, 2);
        YearStretch x = new YearStretch();
        due("status(3)", x.status(3), -1);
        due("status(-1)", x.status(-1), -1);
        due("status(0)", x.status(0), 2);
        due("status(0) does not count", x.status(0), 2);
        due("status(1)", x.status(1), 0);
        due("status(2)", x.status(2), 0);
    }

    @Sentence(promise = 35, says = "STATUS: BAD (0), NO (1), FULL (2). -1: another what (counts as BAD).")
    static void theThreeAreCountedApart() {
        YearStretch x = full();
        x.type(0);
        x.team(0, 1, 0);
        x.from(0);
        x.peg(7);
        x.peg(7);
        x.peg(7);
        dueStatus(x, "3 bad, 1 no, 2 full", 3, 1, 2);
    }

    @Sentence(promise = 36, says = "How many: 0 TEAMS, 1 WORKS, 2 the TURN, 3 WEEKS of all, 4 MEASURED, 5 that may be undone, 6 bytes of THE TEXT. BAD.")
    static void countsAtTheirMost() {
        YearStretch x = full();
        int[] want = {6, 6, 8, 56, 6, 8, 150};
        for (int what = 0; what < 7; what++) {
            due("count(" + what + ")", x.count(what), want[what]);
        }
        for (int s = 0; s < 8; s++) {
            x.weeks(s, 99);
        }
        due("the longest year", x.count(3), 792);
        for (int s = 0; s < 8; s++) {
            x.weeks(s, 0);
        }
        due("the shortest year", x.count(3), 0);
    }

    @Sentence(promise = 36, says = "How many: 0 TEAMS, 1 WORKS, 2 the TURN, 3 WEEKS of all, 4 MEASURED, 5 that may be undone, 6 bytes of THE TEXT. BAD.")
    static void countWithABadNumber() {
        dueRange("count(#)", (x, n) -> x.count(n), 0, 6);
    }

    @Sentence(promise = 37, says = "h = 1109; then h = 31 h + v for each v: count(0) to count(6); WEEKS of SEASONS; PEGS (1, 0); "
            + "of TEAMS KIND, STRONG, SEASON; of WORKS SEASON, WEEKS; of MEASURED m, s, v; THE FRACTION.")
    static void digestOfANewOne() {
        due("digest", new YearStretch().digest(), NEW_DIGEST);
    }

    @Sentence(promise = 37, says = "h = 1109; then h = 31 h + v for each v: count(0) to count(6); WEEKS of SEASONS; PEGS (1, 0); "
            + "of TEAMS KIND, STRONG, SEASON; of WORKS SEASON, WEEKS; of MEASURED m, s, v; THE FRACTION.")
    static void digestOfAFullOne() {
        YearStretch x = new YearStretch();
        for (int s = 0; s < 8; s++) {
            x.weeks(s, 92 + s);
        }
        for (int i = 0; i < 6; i++) {
            x.team(i, 9 - i, 7 - i);
            x.work(i, 60 - i);
            x.measured(20 - i, i, 99 - i);
        }
        for (int i = 0; i < 7; i += 2) {
            x.peg(i);
        }
        type(x, " ".repeat(150));
        x.odds(7, 99, 3);
        long h = mix(1109, 6, 6, 0, 764, 6, 4, 150);
        h = mix(h, 92, 93, 94, 95, 96, 97, 98, 99);
        h = mix(h, 1, 0, 1, 0, 1, 0, 1);
        for (int i = 0; i < 6; i++) {
            h = mix(h, i, 9 - i, 7 - i);
        }
        for (int i = 0; i < 6; i++) {
            h = mix(h, i, 60 - i);
        }
        for (int i = 0; i < 6; i++) {
            h = mix(h, 20 - i, i, 99 - i);
        }
        due("digest", x.digest(), mix(h, 1, 1));
        due("nothing is changed by it", x.digest(), mix(h, 1, 1));
    }

    @Sentence(promise = 37, says = "count(0) to count(6); WEEKS of SEASONS; PEGS (1, 0); "
            + "of TEAMS KIND, STRONG, SEASON; of WORKS SEASON, WEEKS; of MEASURED m, s, v; THE FRACTION.")
    static void digestOfOnesThatAreGone() {
        YearStretch x = full();
        x.valley();
        x.clear();
        due("nothing is left of teams, works, measured", x.digest(), NEW_DIGEST);
        x.odds(0, 99, 5);
        due("0 by 1 as at first", x.digest(), NEW_DIGEST);
    }

    @Sentence(promise = 37, says = "THE FRACTION.")
    static void digestHasAboveAheadOfBelow() {
        YearStretch x = new YearStretch();
        x.team(0, 1, 1);
        x.odds(1, 8, 3);
        long h = mix(1109, 1, 0, 0, 56, 0, 0, 0, 7, 7, 7, 7, 7, 7, 7, 7, 0, 0, 0, 0, 0, 0, 0, 0, 1, 1);
        due("3 by 10", x.digest(), mix(h, 3, 10));
    }
}
