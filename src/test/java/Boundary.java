import java.io.IOException;
import java.lang.annotation.ElementType;
import java.lang.annotation.Retention;
import java.lang.annotation.RetentionPolicy;
import java.lang.annotation.Target;
import java.lang.reflect.InvocationTargetException;
import java.lang.reflect.Method;
import java.util.ArrayList;
import java.util.Arrays;
import java.util.Comparator;
import java.util.List;
import java.util.function.Supplier;

// What the tests of single sentences share: each one says by its annotation which promise and which sentence of
// the document it is for, and every answer that is not due is told with both.
abstract class Boundary {
    static final int NONE = -1, BAD = -2, NO = -3, FULL = -4, OTHER_BAD = -10;

    @Retention(RetentionPolicy.RUNTIME)
    @Target(ElementType.METHOD)
    @interface Sentence {
        int[] promise();

        String says();
    }

    interface Call {
        long of(YearStretch x, int number);
    }

    private static int wrong = 0;
    private static String running = "";

    static void due(String call, long got, long want) {
        if (got != want) {
            wrong("" + call + " answered " + got + ", due is " + want);
        }
    }

    private static void wrong(String what) {
        wrong++;
        System.out.println(running + ": " + what);
    }

    static void dueWeeks(YearStretch x, String call, int... want) {
        for (int s = 0; s < want.length; s++) {
            due(call + ", season " + s, x.of(s, 0), want[s]);
        }
    }

    static void dueStatus(YearStretch x, String call, int bad, int no, int full) {
        due(call + ", then status(0)", x.status(0), bad);
        due(call + ", then status(1)", x.status(1), no);
        due(call + ", then status(2)", x.status(2), full);
    }

    static void dueFraction(YearStretch x, String call, long above, long below) {
        due(call + ", then part(0)", x.part(0), above);
        due(call + ", then part(1)", x.part(1), below);
    }

    static long mix(long h, long... values) {
        long mixed = h;
        for (long v : values) {
            mixed = 31 * mixed + v;
        }
        return mixed;
    }

    static void type(YearStretch x, String text) {
        for (int i = 0; i < text.length(); i++) {
            x.type(text.charAt(i));
        }
    }

    static YearStretch told(String text) {
        YearStretch x = new YearStretch();
        type(x, text);
        if (x.read() < 1) {
            wrong("'" + text + "' was not read");
        }
        return x;
    }

    static void pass(YearStretch x, int turns) {
        for (int left = turns; left > 0; left -= 60) {
            x.turn(Math.min(60, left));
        }
    }

    // something of everything, nothing full, nothing refused; image 0 is kept, image 1 is not
    static YearStretch ground() {
        YearStretch x = told("valley;weeks 2 20;peg 5;team 0 3 1;team 2 4 3;work 1 9;work 3 5;");
        x.odds(1, 8, 3);
        x.image(0);
        x.measured(1, 1, 10);
        x.turn(2);
        x.peg(0);
        x.weeks(7, 30);
        return x;
    }

    // all that can be asked of two objects by calls that show their whole state; both are used up by it
    static void dueSame(String call, YearStretch x, YearStretch like) {
        due(call + ", then digest", x.digest(), like.digest());
        for (int i = 0; i < 9; i++) {
            due(call + ", then undo", x.undo(), like.undo());
            due(call + ", then digest", x.digest(), like.digest());
        }
        for (int i = 0; i < 2; i++) {
            due(call + ", then from(" + i + ")", x.from(i), like.from(i));
            due(call + ", then digest", x.digest(), like.digest());
        }
        due(call + ", then read", x.read(), like.read());
        due(call + ", then digest", x.digest(), like.digest());
    }

    static void dueTaken(String name, Supplier<YearStretch> ground, Call call, int... numbers) {
        for (int number : numbers) {
            YearStretch x = ground.get();
            long got = call.of(x, number);
            String told = name.replace("#", "" + number);
            due(told + " is taken", got == BAD || got == OTHER_BAD ? 0 : 1, 1);
            dueStatus(x, told, 0, 0, 0);
        }
    }

    static void dueRefused(String name, Supplier<YearStretch> ground, Call call, int answer, int... numbers) {
        for (int number : numbers) {
            YearStretch x = ground.get();
            String told = name.replace("#", "" + number);
            due(told, call.of(x, number), answer);
            dueStatus(x, told, 1, 0, 0);
            dueSame(told, x, ground.get());
        }
    }

    // the numbers just inside are taken; those just outside, far outside, or inside only by a wrap-around are not
    static void dueRange(String name, Supplier<YearStretch> ground, Call call, int answer, int least, int most) {
        dueTaken(name, ground, call, least, most);
        int[] tried = {least - 1, most + 1, least - 256, least + 256, most + 256, least + 65536, most - 65536,
            Integer.MIN_VALUE, Integer.MIN_VALUE + Math.max(0, least), Integer.MAX_VALUE};
        dueRefused(name, ground, call, answer, Arrays.stream(tried).filter(n -> n < least || n > most).distinct().toArray());
    }

    static void dueRange(String name, Call call, int least, int most) {
        dueRange(name, Boundary::ground, call, BAD, least, most);
    }

    private static List<Method> sentences(Class<?>... all) {
        List<Method> found = new ArrayList<>();
        for (Class<?> tests : all) {
            List<Method> here = new ArrayList<>(Arrays.asList(tests.getDeclaredMethods()));
            here.removeIf(m -> !m.isAnnotationPresent(Sentence.class));
            here.sort(Comparator.comparing((Method m) -> m.getAnnotation(Sentence.class).promise()[0])
                    .thenComparing(Method::getName));
            found.addAll(here);
        }
        return found;
    }

    // answers whether every sentence holds, and stands in the document, and none of the document's is left out
    static boolean run(Class<?>... all) throws IOException, IllegalAccessException {
        List<Method> tests = sentences(all);
        Document document = Document.found();
        for (Method test : tests) {
            Sentence sentence = test.getAnnotation(Sentence.class);
            running = "promise " + Arrays.toString(sentence.promise()) + " '" + sentence.says() + "' " + test.getName();
            if (document != null && !document.quote(sentence.promise(), sentence.says())) {
                wrong("does not stand in the document");
            }
            try {
                test.invoke(null);
            } catch (InvocationTargetException thrown) {
                wrong("threw " + thrown.getCause());
            }
        }
        running = "the document";
        for (String left : document == null ? List.<String>of() : document.leftOut()) {
            wrong("no test is for '" + left + "'");
        }
        System.out.println(tests.size() + " sentences tried, " + wrong + " answers are not as due");
        return wrong == 0;
    }
}
