import java.lang.reflect.InvocationTargetException;
import java.lang.reflect.Method;
import java.lang.reflect.Modifier;
import java.util.ArrayList;
import java.util.Comparator;
import java.util.List;

// "What it is": each part of the document's first sentence on one small valley, whose years are told below, and what
// is said there of an object's calls.
final class AboutSentences extends Boundary {
    private static final String TEXT = "valley;weeks 2 12;peg 4;team 0 3 1;team 5 2 3;work 1 10;work 3 16;";

    // the valley behind 0, 1, 2 .. turns, worked out by hand; from the fifth on nothing is left to pull
    private static final int[][] YEARS = {
        {7, 7, 12, 7, 7, 7, 7, 7},
        {4, 10, 8, 11, 7, 7, 7, 7},
        {4, 13, 5, 15, 3, 7, 7, 7},
        {1, 16, 1, 19, 3, 7, 7, 7},
        {1, 17, 0, 19, 3, 7, 7, 7},
        {0, 18, 0, 19, 3, 7, 7, 7},
    };
    private static final int LAST = YEARS.length - 1;

    @Sentence(promise = {4, 5, 11}, says = "Years stretch: in this valley a year is elastic, pegged at some days and "
            + "let out by teams with ropes who pull for what they want more of;")
    static void aYearIsLetOutByItsTeams() {
        YearStretch x = told(TEXT);
        for (int t = 1; t <= LAST + 2; t++) {
            due("turn", x.turn(1), t);
            dueWeeks(x, "behind turn " + t, YEARS[Math.min(t, LAST)]);
            due("no week is lost", x.count(3), 61);
        }
        x = told(TEXT + "peg 0;peg 1;peg 2;peg 3;");
        x.turn(60);
        dueWeeks(x, "pegged on all sides", YEARS[0]);
    }

    @Sentence(promise = {3, 13}, says = "seasons of so many weeks,")
    static void seasonsOfSoManyWeeks() {
        YearStretch x = told(TEXT);
        dueWeeks(x, "told", YEARS[0]);
        due("weeks", x.weeks(2, 13), 12);
        due("of", x.of(2, 0), 13);
    }

    @Sentence(promise = {5, 14}, says = "teams of kinds over one another, plain ones, cooks, schoolboys, ropes of hair, "
            + "tired ones, greased ones;")
    static void teamsOfSixKinds() {
        YearStretch x = new YearStretch();
        x.turn(3);
        x.weeks(5, 8);
        int[] pulls = {4, 4, 8, 6, 5, 6};
        for (int kind = 0; kind < 6; kind++) {
            due("team", x.team(kind, 4, 4), kind);
            due("kind " + kind + " in turn 3", x.about(kind, 4), pulls[kind]);
        }
        due("no other kind", x.team(6, 4, 4), BAD);
    }

    @Sentence(promise = {4, 11, 12}, says = "turns of pulling, pegs driven, drawn, undone;")
    static void turnsAndPegsAreUndone() {
        YearStretch x = told(TEXT);
        x.turn(2);
        due("driven", x.peg(0), 1);
        due("drawn", x.peg(4), 0);
        due("undone", x.undo(), 2);
        due("there again", x.peg(4), 0);
        due("undone", x.undo(), 2);
        due("undone", x.undo(), 2);
        due("undone", x.undo(), 1);
        dueWeeks(x, "undone", YEARS[1]);
        due("peg 0 is gone", x.about(0, 3), 2);
        due("undone", x.undo(), 0);
        due("peg 0 is gone", x.about(0, 3), 0);
        due("no more", x.undo(), NO);
    }

    @Sentence(promise = {15, 16}, says = "how long each season is when, what is folded;")
    static void howLongEachSeasonIsWhen() {
        YearStretch x = told(TEXT);
        int[] folded = {0, 0, 0, 0, 4, 5};
        for (int m = 0; m <= LAST; m++) {
            for (int s = 0; s < 8; s++) {
                due("then(" + m + ", " + s + ")", x.then(m, s), YEARS[m][s]);
            }
            due("folded(" + m + ")", x.folded(m), folded[m]);
        }
        due("folded(60)", x.folded(60), 5);
    }

    @Sentence(promise = {6, 17, 18}, says = "works that want so many weeks, done or not, when;")
    static void worksAreDoneOrNot() {
        YearStretch x = told(TEXT);
        int[] done = {0, 1, 1, 3, 3, 3};
        for (int m = 0; m <= LAST; m++) {
            due("done(" + m + ")", x.done(m), done[m]);
        }
        due("the first", x.when(0), 1);
        due("the second", x.when(1), 3);
        due("both", x.when(NONE), 3);
        x.work(0, 5);
        due("all three at once never", x.when(NONE), NONE);
    }

    @Sentence(promise = 19, says = "the fewest teams by which told works are done, exactly;")
    static void theFewestTeams() {
        YearStretch x = told(TEXT);
        due("both, for each has its work", x.hands(3), 3);
        due("in two turns none", x.hands(2), NONE);
        x.idle();
        x.work(3, 19);
        due("the second alone", x.hands(3), 2);
        x.idle();
        x.work(0, 1);
        due("no one", x.hands(20), 0);
    }

    @Sentence(promise = 20, says = "the peg that helps a season most;")
    static void thePegThatHelpsMost() {
        YearStretch x = told(TEXT);
        due("season 0 keeps all by peg 0", x.pegIt(0, 20), 0);
        due("season 4 keeps all by peg 3", x.pegIt(4, 20), 3);
        // by peg 1 the second team alone takes 4 and 4 of 12, and none of 4; by peg 2 the first alone takes all
        due("season 2 keeps 4 by peg 1", x.pegIt(2, 20), 1);
        due("season 7 has as many by each", x.pegIt(7, 20), 0);
    }

    @Sentence(promise = 21, says = "two who choose where to pull, what rests;")
    static void twoWhoChoose() {
        YearStretch x = told(TEXT);
        // season 2 is the longest; seasons 1 and 3 by pairs: 10, 11 - 4, 11 - 6, 7 - 4, 7
        due("both for their own", x.choose(0, 1, 1), 1);
        due("told the other way round", x.choose(1, 0, 1), 1);
    }

    @Sentence(promise = {22, 23}, says = "debts that come due by weeks, ages by seasons;")
    static void debtsAndAges() {
        YearStretch x = told(TEXT);
        int[][] debts = {{0, 0}, {6, 0}, {7, 1}, {13, 1}, {14, 2}, {25, 2}, {26, 3}, {60, 7}, {61, NONE}};
        for (int[] debt : debts) {
            due("due(" + debt[0] + ")", x.due(debt[0]), debt[1]);
        }
        due("seasons 0 and 2 for three years", x.age(5, 3), 19 + 12 + 9);
        due("all seasons for three years", x.age(255, 3), 183);
    }

    @Sentence(promise = 24, says = "when the year is as it was;")
    static void whenTheYearIsAsItWas() {
        YearStretch x = told(TEXT);
        due("never", x.again(), NONE);
        x.turn(LAST);
        due("behind one, with nothing left to pull", x.again(), 1);
    }

    @Sentence(promise = {25, 27, 28, 29}, says = "what a team is, by weeks that were measured, all that fits, where to measure next;")
    static void whatATeamIs() {
        YearStretch x = told(TEXT);
        due("nothing measured", x.is(1), 63);
        // behind one turn season 3 has 11 by hair and greased ones, 9 by all others
        due("measured", x.measured(1, 3, 11), 1);
        due("hair or greased", x.is(1), 40);
        due("for season 3", x.wants(1), 8);
        due("behind 3 they are alike", x.next(1, 3), 0);
        // in turn 3 hair takes the 3 of season 4, which greased ones leave
        due("behind 4 season 3 tells", x.next(1, 4), 3);
        x.measured(4, 3, 19);
        due("greased", x.is(1), 32);
        x.measured(0, 0, 6);
        due("none", x.is(1), 0);
        due("none to tell", x.next(1, 4), NONE);
    }

    @Sentence(promise = 30, says = "turns by odds;")
    static void turnsByOdds() {
        YearStretch x = told(TEXT);
        x.odds(1, 8, 4);
        dueFraction(x, "the first pulls", 2, 5);
        x.odds(2, 12, 3);
        dueFraction(x, "the second rests", 7, 10);
        x.odds(2, 8, 3);
        dueFraction(x, "whatever they do", 1, 1);
    }

    @Sentence(promise = 31, says = "years by a seed;")
    static void yearsByASeed() {
        YearStretch x = told(TEXT);
        due("all pull", x.years(5, 3, 100), 2);
        due("none pulls", x.years(5, 3, 0), 0);
        // of seed 0 the first team has 0, the second 68
        due("the first pulls", x.years(0, 1, 1), 1);
    }

    @Sentence(promise = {8, 9, 10}, says = "a valley told by a text;")
    static void aValleyToldByAText() {
        YearStretch x = new YearStretch();
        type(x, TEXT);
        due("items", x.read(), 7);
        due("teams", x.count(0), 2);
        due("works", x.count(1), 2);
        x.type('x');
        due("a fault", x.read(), -10 - TEXT.length());
        due("clear", x.clear(), TEXT.length() + 1);
    }

    @Sentence(promise = {33, 34, 35}, says = "images, and what was refused, by reason.")
    static void imagesAndWhatWasRefused() {
        YearStretch x = told(TEXT);
        x.image(0);
        x.turn(3);
        x.from(0);
        dueWeeks(x, "from the image", YEARS[0]);
        due("bad", x.peg(7), BAD);
        due("no", x.from(1), NO);
        due("no", x.undo(), NO);
        for (int i = 0; i < 7; i++) {
            x.work(0, 1);
        }
        dueStatus(x, "refused", 1, 2, 3);
    }

    @Sentence(promise = {1, 13}, says = "SEASONS 0 ..")
    static void seasonsFromNone() {
        YearStretch x = new YearStretch();
        due("of(0, 0)", x.of(0, 0), 7);
        due("of(-1, 0)", x.of(-1, 0), BAD);
    }

    @Sentence(promise = 36, says = "An object is used for at most 512 calls after it has been made;")
    static void the512thCallIsAnsweredToo() {
        YearStretch x = new YearStretch();
        x.team(4, 1, 3);
        for (int i = 0; i < 510; i++) {
            due("turn(60)", x.turn(60), 60 * (i + 1));
        }
        due("the 512th call", x.count(2), 30600);
        YearStretch y = new YearStretch();
        for (int i = 0; i < 511; i++) {
            y.status(3);
        }
        due("the 512th call", y.status(0), 511);
    }

    private static List<Method> calls() {
        List<Method> calls = new ArrayList<>();
        for (Method m : YearStretch.class.getDeclaredMethods()) {
            if (Modifier.isPublic(m.getModifiers())) {
                calls.add(m);
            }
        }
        calls.sort(Comparator.comparing(Method::getName));
        return calls;
    }

    // whatever is answered there, LANGUAGE.md has that no call may throw
    @Sentence(promise = 36, says = "what later calls answer is free.")
    static void laterCallsThrowNothing() throws IllegalAccessException, InvocationTargetException {
        int[] numbers = {Integer.MIN_VALUE, -65536, -11, -2, -1, 0, 1, 2, 3, 5, 6, 7, 8, 9, 10, 20, 21, 31, 32, 59, 60, 61, 63,
            64, 99, 100, 127, 128, 150, 255, 256, 800, 801, 999999, 1000000, Integer.MAX_VALUE};
        YearStretch[] states = {new YearStretch(), ground(), told(TEXT)};
        for (YearStretch x : states) {
            for (int i = 0; i < 40; i++) {
                for (Method call : calls()) {
                    Object[] told = new Object[call.getParameterCount()];
                    for (int n = 0; n < 12; n++) {
                        for (int p = 0; p < told.length; p++) {
                            told[p] = numbers[(i * (p + 1) + n * (2 * p + 3) + call.getName().length() * p) % numbers.length];
                        }
                        call.invoke(x, told);
                    }
                }
            }
        }
    }
}
