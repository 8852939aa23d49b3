// Each promise of the document by itself, with answers worked out by hand from its words; two rare valleys were
// found by a search with the class, and their answers are the model's in ModelTest, too.
public final class PromiseTest {
    private static int wrong = 0;
    private static int promise = 0;

    private static void due(String call, long got, long want) {
        if (got != want) {
            wrong++;
            System.out.println("promise " + promise + ": " + call + " answered " + got + ", due is " + want);
        }
    }

    private static void dueWeeks(YearStretch x, String call, int... want) {
        for (int s = 0; s < want.length; s++) {
            due(call + " of season " + s, x.of(s, 0), want[s]);
        }
    }

    private static void dueRefused(YearStretch x, String call, int bad, int no, int full) {
        due(call + " status(0)", x.status(0), bad);
        due(call + " status(1)", x.status(1), no);
        due(call + " status(2)", x.status(2), full);
    }

    private static void type(YearStretch x, String text) {
        x.clear();
        for (int i = 0; i < text.length(); i++) {
            x.type(text.charAt(i));
        }
    }

    private static void tell(YearStretch x, String text) {
        type(x, text);
        due("read of '" + text + "'", x.read() > 0 ? 1 : 0, 1);
    }

    private static long mix(long h, long... values) {
        for (long v : values) {
            h = 31 * h + v;
        }
        return h;
    }

    private static final long NEW_DIGEST = mix(1109, 0, 0, 0, 56, 0, 0, 0,
            7, 7, 7, 7, 7, 7, 7, 7, 0, 0, 0, 0, 0, 0, 0, 0, 1);

    private static void newObject() {
        promise = 1;
        YearStretch x = new YearStretch();
        dueWeeks(x, "new", 7, 7, 7, 7, 7, 7, 7, 7);
        for (int what = 0; what < 7; what++) {
            due("count", x.count(what), what == 3 ? 56 : 0);
        }
        due("part(0)", x.part(0), 0);
        due("part(1)", x.part(1), 1);
        dueRefused(x, "new", 0, 0, 0);
        due("digest", x.digest(), NEW_DIGEST);
        due("undo", x.undo(), YearStretch.NO);
        due("from(0)", x.from(0), YearStretch.NO);
        due("from(1)", x.from(1), YearStretch.NO);
        due("NONE", YearStretch.NONE, -1);
        due("BAD", YearStretch.BAD, -2);
        due("NO", YearStretch.NO, -3);
        due("FULL", YearStretch.FULL, -4);
    }

    private static void valley() {
        promise = 2;
        YearStretch x = new YearStretch();
        due("valley", x.valley(), 0);
        x.team(0, 3, 1);
        x.team(3, 3, 2);
        x.odds(0, 0, 5);
        x.work(2, 5);
        x.measured(1, 2, 3);
        x.peg(3);
        x.turn(3);
        x.weeks(4, 50);
        x.image(1);
        x.type('v');
        x.peg(9);
        due("valley", x.valley(), 2);
        due("digest", x.digest(), mix(1109, 0, 0, 0, 56, 0, 0, 1,
                7, 7, 7, 7, 7, 7, 7, 7, 0, 0, 0, 0, 0, 0, 0, 1, 1));
        due("undo", x.undo(), YearStretch.NO);
        dueRefused(x, "valley keeps", 1, 1, 0);
        due("from(1)", x.from(1), 1);
        due("teams of the image", x.count(0), 2);
        due("valley", x.valley(), 2);
        due("valley again", x.valley(), 0);
    }

    private static void weeks() {
        promise = 3;
        YearStretch x = new YearStretch();
        due("weeks(0, 99)", x.weeks(0, 99), 7);
        due("weeks(0, 0)", x.weeks(0, 0), 99);
        due("weeks(7, 12)", x.weeks(7, 12), 7);
        dueWeeks(x, "weeks", 0, 7, 7, 7, 7, 7, 7, 12);
        due("weeks(-1, 1)", x.weeks(-1, 1), -2);
        due("weeks(8, 1)", x.weeks(8, 1), -2);
        due("weeks(1, -1)", x.weeks(1, -1), -2);
        due("weeks(1, 100)", x.weeks(1, 100), -2);
        due("weeks(min, max)", x.weeks(Integer.MIN_VALUE, Integer.MAX_VALUE), -2);
        dueRefused(x, "weeks", 5, 0, 0);
        dueWeeks(x, "weeks refused", 0, 7, 7, 7, 7, 7, 7, 12);
        due("count(5)", x.count(5), 3);
        due("weeks as they are", x.weeks(0, 0), 0);
        due("may be undone, too", x.count(5), 4);
    }

    private static void peg() {
        promise = 4;
        YearStretch x = new YearStretch();
        for (int i = 0; i < 7; i++) {
            due("driven", x.peg(i), 1);
        }
        due("drawn", x.peg(3), 0);
        due("driven again", x.peg(3), 1);
        due("peg(7)", x.peg(7), -2);
        due("peg(-1)", x.peg(-1), -2);
        due("peg(32)", x.peg(32), -2);
        dueRefused(x, "peg", 3, 0, 0);
        x = new YearStretch();
        x.team(0, 2, 3);
        x.peg(1);
        x.peg(4);
        x.turn(2);
        dueWeeks(x, "other pegs don't hold", 7, 7, 5, 11, 5, 7, 7, 7);
        x.valley();
        x.team(0, 2, 3);
        x.peg(2);
        x.turn(2);
        dueWeeks(x, "peg 2 holds", 7, 7, 7, 9, 5, 7, 7, 7);
        x.valley();
        x.team(0, 2, 3);
        x.peg(3);
        x.turn(2);
        dueWeeks(x, "peg 3 holds", 7, 7, 5, 9, 7, 7, 7, 7);
    }

    private static void team() {
        promise = 5;
        YearStretch x = new YearStretch();
        due("team(-1, 1, 0)", x.team(-1, 1, 0), -2);
        due("team(6, 1, 0)", x.team(6, 1, 0), -2);
        due("team(0, 0, 0)", x.team(0, 0, 0), -2);
        due("team(0, 10, 0)", x.team(0, 10, 0), -2);
        due("team(0, 1, -1)", x.team(0, 1, -1), -2);
        due("team(0, 1, 8)", x.team(0, 1, 8), -2);
        x.weeks(0, 3);
        due("refused teams leave what may be undone", x.count(5), 1);
        for (int i = 0; i < 6; i++) {
            due("team", x.team(5 - i, 9 - i, 7 - i), i);
            due("nothing to undo", x.count(5), 0);
        }
        x.weeks(0, 4);
        due("a 7th", x.team(0, 1, 0), -4);
        due("BAD ahead of FULL", x.team(0, 1, 8), -2);
        due("a full valley leaves what may be undone", x.count(5), 1);
        dueRefused(x, "team", 7, 0, 1);
        for (int i = 0; i < 6; i++) {
            due("kind", x.about(i, 0), 5 - i);
            due("strong", x.about(i, 1), 9 - i);
            due("season", x.about(i, 2), 7 - i);
        }
    }

    private static void work() {
        promise = 6;
        YearStretch x = new YearStretch();
        due("work(-1, 1)", x.work(-1, 1), -2);
        due("work(8, 1)", x.work(8, 1), -2);
        due("work(0, 0)", x.work(0, 0), -2);
        due("work(0, 61)", x.work(0, 61), -2);
        x.weeks(0, 60);
        due("work(0, 60)", x.work(0, 60), 0);
        due("work(7, 1)", x.work(7, 1), 1);
        due("work(1, 8)", x.work(1, 8), 2);
        due("work(1, 7)", x.work(1, 7), 3);
        due("work(1, 6)", x.work(1, 6), 4);
        due("work(6, 8)", x.work(6, 8), 5);
        due("a 7th", x.work(0, 1), -4);
        due("BAD ahead of FULL", x.work(0, 0), -2);
        due("done(0)", x.done(0), 1 + 2 + 8 + 16);
        due("a work leaves what may be undone", x.count(5), 1);
        dueRefused(x, "work", 5, 0, 1);
    }

    private static void idle() {
        promise = 7;
        YearStretch x = new YearStretch();
        due("idle", x.idle(), 0);
        x.team(0, 1, 1);
        x.work(0, 1);
        x.work(0, 2);
        x.measured(0, 0, 1);
        due("idle", x.idle(), 2);
        due("works", x.count(1), 0);
        due("teams stay", x.count(0), 1);
        due("measured stay", x.count(4), 1);
        due("work", x.work(3, 3), 0);
    }

    private static void text() {
        promise = 8;
        YearStretch x = new YearStretch();
        due("type(-1)", x.type(-1), -2);
        due("type(128)", x.type(128), -2);
        due("type(0)", x.type(0), 1);
        due("type(127)", x.type(127), 2);
        for (int i = 3; i <= 150; i++) {
            due("type", x.type(i % 128), i);
        }
        due("a 151st", x.type(1), -4);
        due("BAD ahead of FULL", x.type(128), -2);
        due("count(6)", x.count(6), 150);
        dueRefused(x, "type", 3, 0, 1);
        promise = 9;
        due("clear", x.clear(), 150);
        due("clear", x.clear(), 0);
        due("count(6)", x.count(6), 0);
        due("type", x.type(1), 1);
    }

    private static void dueRead(String text, int want) {
        YearStretch x = new YearStretch();
        x.team(1, 2, 3);
        x.weeks(2, 9);
        type(x, text);
        long before = x.digest();
        due("read of '" + text + "'", x.read(), want);
        if (want < 0) {
            due("digest behind the fault of '" + text + "'", x.digest(), before);
        }
        due("the text stays", x.count(6), text.length());
        dueRefused(x, "read", 0, 0, 0);
    }

    private static void readFaults() {
        dueRead("", -10);
        dueRead("   ", -13);
        dueRead("valley", -16);
        dueRead("valley  ", -18);
        dueRead("valle;", -10);
        dueRead("valleyy;", -10);
        dueRead("  Valley;", -12);
        dueRead("valleY;", -10);
        dueRead("valley1;", -16);
        dueRead("valleyz;", -10);
        dueRead("valleya;", -10);
        dueRead("valley{;", -16);
        dueRead("valley`;", -16);
        dueRead("alley;", -10);
        dueRead("galley;", -10);
        dueRead("valley;geeks 0 1;", -17);
        dueRead("valley;keg 0;", -17);
        dueRead("valley;beam 0 1 0;", -17);
        dueRead("valley;cork 0 1;", -17);
        dueRead(";", -10);
        dueRead("3;", -10);
        dueRead("weeks 0 1;", -10);
        dueRead("peg 0;valley;", -10);
        dueRead("valley;valley;", -17);
        dueRead("valley;peg 0; valley;", -24);
        dueRead("valley;;", -17);
        dueRead("valley; ;", -18);
        dueRead("valley;x;", -17);
        dueRead("valley;pegs 1;", -17);
        dueRead("valley;pe", -17);
        dueRead("valley;peg", -20);
        dueRead("valley;peg;", -20);
        dueRead("valley;peg 7;", -21);
        dueRead("valley;peg 6", -22);
        dueRead("valley;peg 6 6;", -23);
        dueRead("valley;peg 006;", -21);
        dueRead("valley;peg 0006;", -21);
        dueRead("valley;peg -1;", -21);
        dueRead("valley;peg a;", -21);
        dueRead("valley;peg 3a;", -22);
        dueRead("valley;weeks 8 1;", -23);
        dueRead("valley;weeks 7 100;", -25);
        dueRead("valley;weeks 7 ;", -25);
        dueRead("valley;weeks 7 ", -25);
        dueRead("valley;weeks 71;", -23);
        dueRead("valley;team 6 1 0;", -22);
        dueRead("valley;team 5 0 0;", -24);
        dueRead("valley;team 5 10 0;", -24);
        dueRead("valley;team 5 9 8;", -26);
        dueRead("valley;team 5 9;", -25);
        dueRead("valley;team 5 9 7 1;", -28);
        dueRead("valley;work 8 1;", -22);
        dueRead("valley;work 7 0;", -24);
        dueRead("valley;work 7 61;", -24);
        dueRead("valley;work 7 60 1;", -27);
        dueRead("valley;work 7 60;\t", -27);
        String teams = "valley;team 0 1 0;team 0 1 0;team 0 1 0;team 0 1 0;team 0 1 0;team 0 1 0;";
        dueRead(teams, 7);
        dueRead(teams + "team", -10 - teams.length());
        dueRead(teams + " team 9", -11 - teams.length());
        String works = "valley;work 0 1;work 0 1;work 0 1;work 0 1;work 0 1;work 0 1;";
        dueRead(works, 7);
        dueRead(works + "work", -10 - works.length());
        dueRead(works + "team 0 1 0;", 8);
    }

    private static void read() {
        promise = 10;
        readFaults();
        dueRead("valley;", 1);
        dueRead(" valley ; ", 1);
        dueRead("valley;weeks0 99;peg06;team 05 09 07;", 4);
        YearStretch x = new YearStretch();
        x.team(1, 2, 3);
        x.team(1, 2, 3);
        x.odds(0, 0, 3);
        x.work(1, 1);
        x.measured(1, 1, 1);
        x.peg(0);
        x.turn(5);
        x.image(0);
        type(x, "valley;weeks 2 30;weeks 3 00;weeks 2 31;peg 1;peg 4;peg 4;team 5 9 7;work 7 60;work 0 1;");
        int length = x.count(6);
        due("read", x.read(), 10);
        due("digest", x.digest(), mix(1109, 1, 2, 0, 73, 0, 0, length,
                7, 7, 31, 0, 7, 7, 7, 7, 0, 1, 0, 0, 1, 0, 0, 5, 9, 7, 7, 60, 0, 1, 1, 1));
        due("undo", x.undo(), YearStretch.NO);
        due("from the image", x.from(0), 1);
        due("its teams", x.count(0), 2);
        due("read once more", x.read(), 10);
        due("teams", x.count(0), 1);
        x.clear();
        due("read of nothing", x.read(), -10);
        due("teams stay", x.count(0), 1);
    }

    private static void turn() {
        promise = 11;
        YearStretch x = new YearStretch();
        due("turn(0)", x.turn(0), -2);
        due("turn(61)", x.turn(61), -2);
        due("turn(-1)", x.turn(-1), -2);
        due("turn(60)", x.turn(60), 60);
        due("may be undone", x.count(5), 8);
        due("undo", x.undo(), 59);
        x.valley();
        x.team(0, 9, 1);
        x.team(0, 5, 2);
        due("turn(1)", x.turn(1), 1);
        dueWeeks(x, "one behind the other, no more than there are", 0, 9, 12, 7, 7, 7, 7, 7);
        due("turn(2)", x.turn(2), 3);
        // turn 1: 9 from 2 to 1, 5 from 3 to 2; turn 2: none in 0, 5 from 1 to 2
        dueWeeks(x, "from the other side in odd turns", 0, 13, 13, 2, 7, 7, 7, 7);
        x.valley();
        x.weeks(3, 95);
        x.weeks(2, 50);
        x.team(0, 9, 3);
        x.turn(1);
        dueWeeks(x, "no more than up to 99", 7, 7, 46, 99, 7, 7, 7, 7);
        x.turn(1);
        dueWeeks(x, "full", 7, 7, 46, 99, 7, 7, 7, 7);
        x.valley();
        x.team(0, 1, 0);
        x.team(0, 2, 7);
        x.turn(1);
        dueWeeks(x, "none below 0", 7, 7, 7, 7, 7, 7, 5, 9);
        x.turn(1);
        dueWeeks(x, "none above 7", 8, 6, 7, 7, 7, 7, 5, 9);
    }

    private static void kinds() {
        promise = 11;
        int[][] pulls = {{3, 3, 3, 3, 3}, {3, 3, 3, 3, 3}, {3, 6, 3, 6, 3}, {5, 5, 5, 5, 5}, {3, 5, 1, 3, 3}, {5, 5, 5, 5, 5}};
        for (int kind = 0; kind < 6; kind++) {
            for (int t = 0; t < 5; t++) {
                YearStretch x = new YearStretch();
                if (t > 0) {
                    x.turn(t);
                }
                x.team(kind, 3, 4);
                x.weeks(3, 20);
                x.weeks(5, 20);
                x.turn(1);
                due("kind " + kind + " in turn " + t, x.of(4, 0), 7 + pulls[kind][t]);
                due("from", x.of(t % 2 == 0 ? 3 : 5, 0), 20 - pulls[kind][t]);
            }
        }
        YearStretch x = new YearStretch();
        x.team(1, 4, 1);
        due("cooks, as many there", x.about(0, 4), 0);
        x.weeks(0, 8);
        due("cooks, more there", x.about(0, 4), 4);
        x.weeks(0, 6);
        due("cooks, fewer there", x.about(0, 4), 0);
        x.valley();
        x.team(5, 4, 1);
        x.weeks(0, 5);
        due("greased, 5 there", x.about(0, 4), 6);
        x.weeks(0, 4);
        due("greased, 4 there", x.about(0, 4), 0);
        x.valley();
        x.team(4, 1, 1);
        x.turn(2);
        due("tired of 1 in turn 2", x.about(0, 4), 0);
        x.turn(1);
        due("tired of 1 in turn 3", x.about(0, 4), 0);
        x.turn(1);
        due("tired of 1 in turn 4", x.about(0, 4), 1);
    }

    private static void undo() {
        promise = 12;
        YearStretch x = new YearStretch();
        due("undo", x.undo(), -3);
        dueRefused(x, "undo", 0, 1, 0);
        x.team(0, 2, 1);
        x.turn(1);
        x.peg(0);
        x.weeks(5, 50);
        x.work(3, 3);
        x.measured(1, 1, 1);
        due("undo of weeks", x.undo(), 1);
        dueWeeks(x, "undo of weeks", 5, 9, 7, 7, 7, 7, 7, 7);
        due("undo of a peg", x.undo(), 1);
        due("it is drawn", x.peg(0), 1);
        due("undo", x.undo(), 1);
        due("undo of a turn", x.undo(), 0);
        dueWeeks(x, "undo of a turn", 7, 7, 7, 7, 7, 7, 7, 7);
        due("works stay", x.count(1), 1);
        due("measured stay", x.count(4), 1);
        due("undo", x.undo(), -3);
        x.turn(5);
        for (int i = 0; i < 5; i++) {
            x.weeks(2, 40 + i);
        }
        due("8 at most", x.count(5), 8);
        for (int i = 3; i >= 0; i--) {
            x.undo();
            due("weeks undone", x.of(2, 0), 40 + i);
        }
        due("the last weeks", x.undo(), 5);
        due("a turn", x.undo(), 4);
        due("a turn", x.undo(), 3);
        due("a turn", x.undo(), 2);
        due("no more", x.undo(), -3);
        x.weeks(1, 1);
        x.team(0, 1, 1);
        due("behind a team", x.undo(), -3);
        x.weeks(1, 2);
        due("behind it", x.undo(), 2);
        due("weeks", x.of(1, 0), 1);
    }

    private static void of() {
        promise = 13;
        YearStretch x = new YearStretch();
        x.weeks(2, 0);
        x.weeks(3, 1);
        x.team(0, 1, 2);
        x.team(0, 1, 3);
        x.team(1, 1, 2);
        x.work(3, 1);
        x.work(2, 2);
        x.work(3, 3);
        due("of(2, 0)", x.of(2, 0), 0);
        due("of(2, 1)", x.of(2, 1), 1);
        due("of(3, 1)", x.of(3, 1), 0);
        due("of(2, 2)", x.of(2, 2), 5);
        due("of(3, 2)", x.of(3, 2), 2);
        due("of(0, 2)", x.of(0, 2), 0);
        due("of(2, 3)", x.of(2, 3), 2);
        due("of(3, 3)", x.of(3, 3), 5);
        due("of(-1, 0)", x.of(-1, 0), -2);
        due("of(8, 0)", x.of(8, 0), -2);
        due("of(0, -1)", x.of(0, -1), -2);
        due("of(0, 4)", x.of(0, 4), -2);
        dueRefused(x, "of", 4, 0, 0);
    }

    private static void about() {
        promise = 14;
        YearStretch x = new YearStretch();
        due("no team", x.about(0, 0), -10);
        x.team(3, 8, 0);
        x.team(2, 7, 7);
        due("kind", x.about(1, 0), 2);
        due("strong", x.about(1, 1), 7);
        due("season", x.about(1, 2), 7);
        due("from", x.about(0, 3), -1);
        due("none", x.about(0, 4), 0);
        due("from", x.about(1, 3), 6);
        x.weeks(6, 1);
        due("more than there are", x.about(1, 4), 7);
        x.peg(6);
        due("a peg between", x.about(1, 3), -1);
        due("a peg between", x.about(1, 4), 0);
        x.peg(6);
        x.turn(1);
        due("odd", x.about(0, 3), 1);
        due("odd", x.about(0, 4), 10);
        due("odd", x.about(1, 3), -1);
        due("odd", x.about(1, 4), 0);
        x.peg(0);
        due("a peg between", x.about(0, 3), -1);
        due("about(2, 0)", x.about(2, 0), -10);
        due("about(-1, 0)", x.about(-1, 0), -10);
        due("about(0, 5)", x.about(0, 5), -10);
        due("about(0, -1)", x.about(0, -1), -10);
        dueRefused(x, "about", 5, 0, 0);
    }

    // a plain team of 2 for season 1, from 0 in even turns, from 2 in odd ones
    private static YearStretch plainValley() {
        YearStretch x = new YearStretch();
        x.team(0, 2, 1);
        return x;
    }

    private static void whatComes() {
        YearStretch x = plainValley();
        long before = x.digest();
        promise = 15;
        due("then(0, 1)", x.then(0, 1), 7);
        due("then(1, 1)", x.then(1, 1), 9);
        due("then(1, 0)", x.then(1, 0), 5);
        due("then(2, 2)", x.then(2, 2), 5);
        due("then(7, 0)", x.then(7, 0), 0);
        due("then(60, 1)", x.then(60, 1), 21);
        due("then(61, 1)", x.then(61, 1), -2);
        due("then(-1, 1)", x.then(-1, 1), -2);
        due("then(0, 8)", x.then(0, 8), -2);
        due("then(0, -1)", x.then(0, -1), -2);
        promise = 16;
        // 7 5 3 1 0: season 0 is folded behind turn 6 (the 7th one), 2 behind turn 7
        due("folded(0)", x.folded(0), 0);
        due("folded(6)", x.folded(6), 0);
        due("folded(7)", x.folded(7), 1);
        due("folded(8)", x.folded(8), 5);
        due("folded(60)", x.folded(60), 5);
        due("folded(61)", x.folded(61), -2);
        due("folded(-1)", x.folded(-1), -2);
        due("digest", x.digest(), before);
        promise = 17;
        x.work(1, 9);
        x.work(0, 4);
        x.work(1, 21);
        due("done(0)", x.done(0), 2);
        due("done(1)", x.done(1), 3);
        due("done(3)", x.done(3), 1);
        due("done(8)", x.done(8), 5);
        due("done(60)", x.done(60), 5);
        due("done(61)", x.done(61), -2);
        due("done(-1)", x.done(-1), -2);
        dueRefused(x, "what comes", 8, 0, 0);
        x.turn(1);
        due("from the turn that it is", x.done(0), 3);
    }

    private static void when() {
        promise = 18;
        YearStretch x = plainValley();
        due("no works", x.when(-1), 0);
        due("no work", x.when(0), -10);
        x.work(1, 9);
        x.work(0, 7);
        x.work(1, 22);
        x.work(1, 21);
        due("when(0)", x.when(0), 1);
        due("when(1)", x.when(1), 0);
        due("when(2)", x.when(2), -1);
        due("when(3)", x.when(3), 8);
        due("when(-1)", x.when(-1), -1);
        due("when(4)", x.when(4), -10);
        due("when(-2)", x.when(-2), -10);
        dueRefused(x, "when", 3, 0, 0);
        x.idle();
        x.work(1, 9);
        x.work(0, 5);
        due("all at once", x.when(-1), 1);
        x.work(0, 6);
        due("never at once", x.when(-1), -1);
        x.valley();
        x.weeks(1, 60);
        x.team(0, 1, 0);
        x.work(0, 37);
        due("in 60 turns", x.when(0), 60);
        x.work(0, 38);
        due("in 62 turns", x.when(1), -1);
        due("all in 62 turns", x.when(-1), -1);
    }

    private static void hands() {
        promise = 19;
        YearStretch x = new YearStretch();
        due("no works", x.hands(20), 0);
        x.team(0, 1, 1);
        x.team(0, 2, 1);
        x.team(0, 2, 1);
        x.team(0, 4, 3);
        x.work(1, 9);
        due("hands(0)", x.hands(0), -1);
        due("the least of like ones", x.hands(1), 2);
        due("one is enough in 2", x.hands(2), 1);
        x.work(1, 11);
        due("two", x.hands(1), 6);
        x.work(3, 11);
        due("three", x.hands(1), 14);
        x.work(2, 7);
        due("none", x.hands(1), -1);
        due("hands(21)", x.hands(21), -2);
        due("hands(-1)", x.hands(-1), -2);
        dueRefused(x, "hands", 2, 0, 0);
        x.valley();
        x.team(0, 9, 2);
        x.team(0, 3, 1);
        x.work(1, 10);
        due("who rest leave their weeks", x.hands(1), 2);
        x.work(2, 11);
        due("the first pulls the weeks of the other's season", x.hands(1), -1);
    }

    private static void pegIt() {
        promise = 20;
        YearStretch x = new YearStretch();
        due("all alike: the first", x.pegIt(0, 20), 0);
        x.team(0, 3, 2);
        x.team(0, 3, 1);
        // turn 0: 3 from 1 to 2, 3 from 0 to 1; turn 1: 3 from 3 to 2, 3 from 2 to 1
        due("peg 1 keeps what 1 has", x.pegIt(1, 1), 1);
        due("peg 1 keeps what 2 has, in two turns", x.pegIt(2, 2), 0);
        due("peg 0 keeps what 0 has", x.pegIt(0, 1), 0);
        due("nothing to keep", x.pegIt(7, 2), 0);
        x.peg(0);
        due("drawn", x.pegIt(1, 1), 0);
        x.valley();
        x.weeks(1, 0);
        x.team(0, 5, 1);
        x.team(0, 5, 2);
        x.team(0, 5, 3);
        x.team(0, 5, 4);
        x.team(0, 5, 5);
        x.team(0, 5, 6);
        due("only peg 6 leaves season 7 as it is", x.pegIt(7, 2), 6);
        due("pegIt(8, 0)", x.pegIt(8, 0), -2);
        due("pegIt(-1, 0)", x.pegIt(-1, 0), -2);
        due("pegIt(0, 21)", x.pegIt(0, 21), -2);
        due("pegIt(0, -1)", x.pegIt(0, -1), -2);
        dueRefused(x, "pegIt", 4, 0, 0);
        x.valley();
        for (int s = 0; s < 8; s++) {
            due("no turns: all alike, the first", x.pegIt(s, 0), 0);
        }
        // found by a search: every peg, driven or drawn, leaves season 5 with fewer weeks
        tell(x, "valley;weeks 0 1;weeks 1 6;weeks 2 10;weeks 3 11;weeks 4 6;weeks 6 10;weeks 7 6;"
                + "team 3 5 3;team 4 7 2;team 2 2 1;team 2 3 6;team 3 3 4;team 3 6 5;");
        due("leaving all as it is", x.pegIt(5, 17), 7);
        due("leaving all as it is", bestPeg(x, 5, 17), 7);
    }

    // the same question, asked with the calls peg, then and undo
    private static int bestPeg(YearStretch x, int s, int m) {
        int best = 7;
        int most = -1;
        for (int i = 0; i < 7; i++) {
            x.peg(i);
            int got = x.then(m, s);
            x.undo();
            if (got > most) {
                most = got;
                best = i;
            }
        }
        return x.then(m, s) > most ? 7 : best;
    }

    private static void choose() {
        promise = 21;
        YearStretch x = new YearStretch();
        x.team(0, 2, 1);
        due("one team", x.choose(0, 1, 1), -2);
        x.team(0, 3, 5);
        x.weeks(3, 20);
        // own: a has 9, else 7; b has 10, else 7
        due("both for the own", x.choose(0, 1, 1), 1);
        due("alike", x.choose(0, 0, 1), -2);
        due("alike", x.choose(1, 1, 1), -2);
        due("no b", x.choose(0, 2, 1), -2);
        due("no a", x.choose(-1, 0, 1), -2);
        due("no turns", x.choose(0, 1, 0), -2);
        due("too many turns", x.choose(0, 1, 7), -2);
        dueRefused(x, "choose", 7, 0, 0);
        x.valley();
        x.weeks(4, 20);
        x.team(0, 2, 4);
        x.team(0, 3, 4);
        due("the own is the longest: all pairs", x.choose(0, 1, 6), 15);
        x.valley();
        x.weeks(1, 20);
        x.team(0, 2, 0);
        x.team(0, 3, 3);
        // a, in turn 0, has 7 for its own; pulling for 1 it would lose 2 (from 0 to 1)
        due("a stays, b stays", x.choose(0, 1, 1), 1);
        x.valley();
        x.peg(0);
        x.weeks(2, 20);
        x.team(0, 2, 0);
        x.team(0, 3, 1);
        // pegged, a has 7 either way; b for its own has 7 in turn 0 (a peg), for 2 it loses 3
        due("a is free", x.choose(0, 1, 1), 3);
        due("b is free", x.choose(1, 0, 1), 5);
        x.valley();
        for (int s = 0; s < 8; s++) {
            x.weeks(s, 9);
        }
        x.weeks(0, 9);
        x.team(0, 2, 1);
        x.team(0, 1, 6);
        // of like ones the least is season 0, for which none can pull in turn 0: each has more by its own
        due("of like ones the least", x.choose(0, 1, 1), 1);
        x.valley();
        x.team(0, 2, 0);
        x.team(0, 1, 6);
        // season 0 is the longest one, being the first of like ones, so a pulls for it either way
        due("of like ones the least", x.choose(0, 1, 1), 3);
        // b takes from a's season: a has 7 + 4 - 4 by its own, 7 - 4 otherwise; b has 11, else 7
        x.valley();
        x.weeks(5, 30);
        x.team(0, 4, 2);
        x.team(0, 4, 3);
        due("each takes for its own", x.choose(0, 1, 1), 1);
        x.valley();
        x.weeks(3, 8);
        x.peg(1);
        x.team(0, 4, 2);
        x.team(0, 4, 4);
        // a has nothing by its own (a peg), and loses by pulling for 3 in turn 0; b takes from 3
        due("a and b for their own", x.choose(0, 1, 1), 1);
        due("b's gain is by b's season", x.choose(1, 0, 1), 1);
    }

    private static void due() {
        promise = 22;
        YearStretch x = new YearStretch();
        due("due(0)", x.due(0), 0);
        due("due(6)", x.due(6), 0);
        due("due(7)", x.due(7), 1);
        due("due(55)", x.due(55), 7);
        due("due(56)", x.due(56), -1);
        due("due(800)", x.due(800), -1);
        due("due(801)", x.due(801), -2);
        due("due(-1)", x.due(-1), -2);
        x.weeks(0, 0);
        due("folded", x.due(0), 1);
        for (int s = 0; s < 8; s++) {
            x.weeks(s, 99);
        }
        due("due(791)", x.due(791), 7);
        due("due(792)", x.due(792), -1);
        dueRefused(x, "due", 2, 0, 0);
    }

    private static void age() {
        promise = 23;
        YearStretch x = plainValley();
        due("age(255, 0)", x.age(255, 0), 0);
        due("age(2, 1)", x.age(2, 1), 7);
        due("age(2, 2)", x.age(2, 2), 16);
        due("age(3, 2)", x.age(3, 2), 28);
        due("age(128, 60)", x.age(128, 60), 420);
        due("age(0, 60)", x.age(0, 60), 0);
        due("age(255, 60)", x.age(255, 60), 3360);
        due("age(256, 1)", x.age(256, 1), -2);
        due("age(-1, 1)", x.age(-1, 1), -2);
        due("age(1, 61)", x.age(1, 61), -2);
        due("age(1, -1)", x.age(1, -1), -2);
        dueRefused(x, "age", 4, 0, 0);
    }

    private static void again() {
        promise = 24;
        YearStretch x = new YearStretch();
        due("no teams", x.again(), 1);
        x.team(0, 2, 1);
        due("never", x.again(), -1);
        x.team(0, 2, 0);
        // even: 2 from 0 to 1; odd: 2 from 2 to 1, 2 from 1 to 0
        due("never, for 2 is drained", x.again(), -1);
        x.valley();
        x.team(0, 2, 1);
        x.team(0, 2, 0);
        x.peg(1);
        due("there and back", x.again(), 2);
        x.turn(1);
        due("there and back", x.again(), 2);
        x.valley();
        x.team(0, 1, 0);
        due("as it is in the first turn", x.again(), 1);
        x.turn(1);
        due("not from an odd one", x.again(), -1);
        // found by a search
        tell(x, "valley;weeks 1 11;weeks 2 3;weeks 3 2;weeks 6 1;weeks 7 5;peg 1;peg 4;team 1 9 5;team 4 2 6;team 5 3 7;");
        due("behind 60 turns", x.again(), 60);
    }

    private static void measured() {
        promise = 25;
        YearStretch x = new YearStretch();
        due("measured(-1, 0, 0)", x.measured(-1, 0, 0), -2);
        due("measured(21, 0, 0)", x.measured(21, 0, 0), -2);
        due("measured(0, -1, 0)", x.measured(0, -1, 0), -2);
        due("measured(0, 8, 0)", x.measured(0, 8, 0), -2);
        due("measured(0, 0, -1)", x.measured(0, 0, -1), -2);
        due("measured(0, 0, 100)", x.measured(0, 0, 100), -2);
        due("measured(20, 7, 99)", x.measured(20, 7, 99), 1);
        for (int i = 2; i <= 6; i++) {
            due("measured(0, 0, 0)", x.measured(0, 0, 0), i);
        }
        due("a 7th", x.measured(0, 0, 0), -4);
        due("BAD ahead of FULL", x.measured(0, 0, 100), -2);
        dueRefused(x, "measured", 7, 0, 1);
        promise = 26;
        due("forget", x.forget(), 6);
        due("forget", x.forget(), 0);
        due("count(4)", x.count(4), 0);
        due("measured", x.measured(1, 2, 3), 1);
    }

    private static void is() {
        promise = 27;
        YearStretch x = new YearStretch();
        due("no team", x.is(0), -2);
        x.team(0, 2, 1);
        due("nothing measured: all", x.is(0), 63);
        x.measured(1, 1, 9);
        due("plain, boys, tired", x.is(0), 1 + 4 + 16);
        x.measured(2, 1, 11);
        due("plain", x.is(0), 1);
        x.forget();
        x.measured(2, 1, 13);
        due("boys", x.is(0), 4);
        x.forget();
        x.measured(2, 1, 12);
        due("tired: 2, 4 less 1", x.is(0), 16);
        x.forget();
        x.measured(1, 1, 11);
        due("hair, greased", x.is(0), 8 + 32);
        x.measured(2, 0, 3);
        due("hair, greased", x.is(0), 8 + 32);
        x.measured(3, 0, 0);
        due("hair", x.is(0), 8);
        x.measured(0, 0, 8);
        due("none", x.is(0), 0);
        x.forget();
        x.measured(1, 1, 7);
        due("cooks", x.is(0), 2);
        due("is(1)", x.is(1), -2);
        due("is(-1)", x.is(-1), -2);
        due("the kind stays", x.about(0, 0), 0);
        dueRefused(x, "is", 3, 0, 0);
        x.forget();
        x.measured(20, 0, 0);
        x.measured(20, 1, 21);
        x.measured(20, 2, 0);
        // of greased ones 3 weeks stay in 0 and in 2; cooks leave as many as there are in 1
        due("behind 20 turns", x.is(0), 1 + 4 + 8 + 16);
    }

    private static void next() {
        promise = 28;
        YearStretch x = new YearStretch();
        due("no team", x.next(0, 0), -2);
        x.team(0, 2, 1);
        due("all alike: the first", x.next(0, 0), 0);
        // behind 1: plain, boys, tired 9; hair, greased 11; cooks 7: all by 0, too
        due("the first", x.next(0, 1), 0);
        // behind 2: season 1: 11, 7 or more, 13, 15, 12, 15; season 0: 5 for three
        due("season 1", x.next(0, 2), 1);
        x.measured(1, 1, 9);
        due("0 is alike for all who are left", x.next(0, 2), 1);
        x.measured(2, 1, 13);
        due("one is left", x.next(0, 20), 0);
        x.measured(2, 1, 12);
        due("none is left", x.next(0, 2), -1);
        due("next(0, 21)", x.next(0, 21), -2);
        due("next(0, -1)", x.next(0, -1), -2);
        due("next(1, 0)", x.next(1, 0), -2);
        due("next(-1, 0)", x.next(-1, 0), -2);
        dueRefused(x, "next", 5, 0, 0);
    }

    private static void wants() {
        promise = 29;
        YearStretch x = new YearStretch();
        due("no team", x.wants(0), -2);
        x.team(0, 2, 1);
        due("nothing measured: all", x.wants(0), 255);
        x.measured(1, 1, 9);
        due("season 1", x.wants(0), 2);
        x.forget();
        x.measured(1, 1, 5);
        due("season 2", x.wants(0), 4);
        x.forget();
        x.measured(1, 4, 7);
        due("neither 4 nor 5", x.wants(0), 255 - 16 - 32);
        x.measured(2, 7, 9);
        due("season 7", x.wants(0), 128);
        x.measured(2, 7, 8);
        due("none", x.wants(0), 0);
        due("the season stays", x.about(0, 2), 1);
        due("wants(1)", x.wants(1), -2);
        due("wants(-1)", x.wants(-1), -2);
        dueRefused(x, "wants", 3, 0, 0);
    }

    private static void dueOdds(YearStretch x, int s, int n, int c, long above, long below) {
        due("odds", x.odds(s, n, c), 1);
        due("above", x.part(0), above);
        due("below", x.part(1), below);
    }

    private static void odds() {
        promise = 30;
        YearStretch x = new YearStretch();
        dueOdds(x, 0, 7, 3, 1, 1);
        dueOdds(x, 0, 8, 3, 0, 1);
        x.team(0, 2, 1);
        dueOdds(x, 1, 8, 3, 3, 10);
        dueOdds(x, 0, 7, 3, 7, 10);
        dueOdds(x, 1, 9, 4, 2, 5);
        dueOdds(x, 1, 10, 4, 0, 1);
        x.team(0, 3, 1);
        dueOdds(x, 1, 8, 3, 51, 100);
        dueOdds(x, 1, 10, 3, 3, 10);
        dueOdds(x, 1, 12, 3, 9, 100);
        dueOdds(x, 1, 0, 3, 1, 1);
        dueOdds(x, 1, 12, 10, 1, 1);
        dueOdds(x, 1, 8, 0, 0, 1);
        for (int i = 0; i < 4; i++) {
            x.team(0, 1, 7);
        }
        dueOdds(x, 7, 11, 1, 1, 10000);
        dueOdds(x, 7, 8, 1, 3439, 10000);
        due("odds(-1, 0, 0)", x.odds(-1, 0, 0), -2);
        due("odds(8, 0, 0)", x.odds(8, 0, 0), -2);
        due("odds(0, -1, 0)", x.odds(0, -1, 0), -2);
        due("odds(0, 100, 0)", x.odds(0, 100, 0), -2);
        due("odds(0, 0, -1)", x.odds(0, 0, -1), -2);
        due("odds(0, 0, 11)", x.odds(0, 0, 11), -2);
        due("the fraction stays", x.part(0), 3439);
        dueRefused(x, "odds", 6, 0, 0);
        promise = 32;
        due("part(2)", x.part(2), -2);
        due("part(-1)", x.part(-1), -2);
        due("part(0)", x.part(0), 3439);
        due("part(1)", x.part(1), 10000);
        dueRefused(x, "part", 8, 0, 0);
        x.valley();
        due("the fraction stays", x.part(1), 10000);
    }

    private static void years() {
        promise = 31;
        YearStretch x = new YearStretch();
        due("no works", x.years(0, 0, 0), 0);
        x.team(0, 2, 1);
        x.team(0, 1, 6);
        x.work(1, 9);
        x.work(6, 8);
        x.work(3, 7);
        due("none pulls", x.years(5, 60, 0), 1);
        due("all pull", x.years(5, 1, 100), 3);
        due("no turns", x.years(5, 0, 100), 1);
        // X: 12345, by 65536 is 0; then 1406932606, by 65536 is 21468, left over 68
        due("of seed 0 the first pulls", x.years(0, 1, 1), 2);
        due("less than 68", x.years(0, 1, 68), 2);
        due("68 is less than 69", x.years(0, 1, 69), 3);
        due("the greatest seed", x.years(999999, 60, 100), 3);
        due("years(-1, 0, 0)", x.years(-1, 0, 0), -2);
        due("years(1000000, 0, 0)", x.years(1000000, 0, 0), -2);
        due("years(0, -1, 0)", x.years(0, -1, 0), -2);
        due("years(0, 61, 0)", x.years(0, 61, 0), -2);
        due("years(0, 0, -1)", x.years(0, 0, -1), -2);
        due("years(0, 0, 101)", x.years(0, 0, 101), -2);
        dueRefused(x, "years", 6, 0, 0);
        due("nothing goes by", x.count(2), 0);
    }

    private static void images() {
        promise = 33;
        YearStretch x = new YearStretch();
        due("image(2)", x.image(2), -2);
        due("image(-1)", x.image(-1), -2);
        x.team(2, 3, 4);
        x.work(1, 2);
        x.measured(3, 4, 5);
        x.peg(2);
        x.turn(2);
        long kept = x.digest();
        due("image(0)", x.image(0), 1);
        x.undo();
        x.idle();
        x.forget();
        due("image(1)", x.image(1), 1);
        x.valley();
        promise = 34;
        due("from(0)", x.from(0), 1);
        due("digest", x.digest(), kept);
        due("what may be undone is kept", x.undo(), 1);
        due("what may be undone is kept", x.undo(), 0);
        due("the peg, too", x.undo(), 0);
        due("drawn", x.peg(2), 1);
        due("from(1)", x.from(1), 1);
        due("its works", x.count(1), 0);
        due("its turn", x.count(2), 1);
        due("from(0) again", x.from(0), 1);
        due("digest", x.digest(), kept);
        due("from(2)", x.from(2), -2);
        due("from(-1)", x.from(-1), -2);
        imagesOfThePast();
        YearStretch y = new YearStretch();
        y.image(1);
        due("none was kept", y.from(0), -3);
        dueRefused(y, "from", 0, 1, 0);
        dueRefused(x, "from", 4, 0, 0);
        y.type('v');
        y.odds(0, 0, 0);
        y.from(1);
        due("the text stays", y.count(6), 1);
        due("the fraction stays", y.part(0), 1);
        due("the status stays", y.status(1), 1);
    }

    private static void imagesOfThePast() {
        YearStretch x = new YearStretch();
        x.turn(11);
        x.peg(4);
        x.weeks(6, 60);
        x.peg(4);
        x.image(0);
        x.valley();
        x.weeks(0, 1);
        x.weeks(0, 2);
        x.from(0);
        due("8 are kept", x.count(5), 8);
        due("undo", x.undo(), 11);
        due("weeks as they were", x.of(6, 0), 60);
        due("undo", x.undo(), 11);
        due("weeks as they were", x.of(6, 0), 7);
        due("the peg as it was", x.peg(4), 0);
        x.undo();
        due("undo", x.undo(), 11);
        due("the peg as it was", x.peg(4), 1);
        x.undo();
        for (int t = 10; t >= 6; t--) {
            due("undo", x.undo(), t);
        }
        due("no more", x.undo(), -3);
    }

    private static void statusAndCount() {
        promise = 35;
        YearStretch x = new YearStretch();
        due("status(3)", x.status(3), -1);
        due("status(-1)", x.status(-1), -1);
        x.undo();
        x.undo();
        x.undo();
        dueRefused(x, "status", 2, 3, 0);
        promise = 36;
        x.team(0, 2, 1);
        x.team(0, 2, 1);
        x.work(0, 1);
        x.measured(0, 0, 0);
        x.measured(0, 0, 0);
        x.measured(0, 0, 0);
        x.turn(4);
        x.weeks(7, 9);
        x.type(1);
        x.type(2);
        int[] want = {2, 1, 4, 58, 3, 5, 2};
        for (int what = 0; what < 7; what++) {
            due("count(" + what + ")", x.count(what), want[what]);
        }
        due("count(7)", x.count(7), -2);
        due("count(-1)", x.count(-1), -2);
        dueRefused(x, "count", 4, 3, 0);
    }

    private static void digest() {
        promise = 37;
        YearStretch x = new YearStretch();
        x.team(1, 2, 3);
        x.team(5, 9, 7);
        x.work(4, 50);
        x.work(6, 60);
        x.measured(20, 1, 99);
        x.odds(3, 8, 4);
        x.peg(0);
        x.peg(6);
        x.weeks(0, 1);
        x.turn(1);
        x.type(65);
        due("digest", x.digest(), mix(1109, 2, 2, 1, 50, 1, 4, 1, 1, 7, 7, 7, 7, 7, 7, 7,
                1, 0, 0, 0, 0, 0, 1, 1, 2, 3, 5, 9, 7, 4, 50, 6, 60, 20, 1, 99, 0, 1));
        x.odds(7, 7, 0);
        due("digest", x.digest(), mix(1109, 2, 2, 1, 50, 1, 4, 1, 1, 7, 7, 7, 7, 7, 7, 7,
                1, 0, 0, 0, 0, 0, 1, 1, 2, 3, 5, 9, 7, 4, 50, 6, 60, 20, 1, 99, 1, 1));
        dueRefused(x, "digest", 0, 0, 0);
    }

    public static void main(String[] args) {
        newObject();
        valley();
        weeks();
        peg();
        team();
        work();
        idle();
        text();
        read();
        turn();
        kinds();
        undo();
        of();
        about();
        whatComes();
        when();
        hands();
        pegIt();
        choose();
        due();
        age();
        again();
        measured();
        is();
        next();
        wants();
        odds();
        years();
        images();
        statusAndCount();
        digest();
        System.out.println(wrong == 0 ? "all promises hold" : wrong + " answers are not as due");
        if (wrong != 0) {
            System.exit(1);
        }
    }
}
