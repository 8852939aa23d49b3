import java.io.IOException;
import java.lang.management.ManagementFactory;
import java.lang.reflect.Field;
import java.lang.reflect.Method;
import java.lang.reflect.Modifier;
import java.nio.file.Files;
import java.nio.file.Path;
import java.util.Arrays;
import java.util.Set;
import java.util.TreeSet;
import java.util.regex.Matcher;
import java.util.regex.Pattern;

// What can be seen of LANGUAGE.md from outside: the face, words that must not stand in the source,
// the length of methods, and the room that a run of calls takes.
public final class RuleTest {
    private static final String[] FACE = {
        "int valley()", "int weeks(int,int)", "int peg(int)", "int team(int,int,int)", "int work(int,int)",
        "int idle()", "int type(int)", "int clear()", "int read()", "int turn(int)", "int undo()", "int of(int,int)",
        "int about(int,int)", "int then(int,int)", "int folded(int)", "int done(int)", "int when(int)",
        "int hands(int)", "int pegIt(int,int)", "int choose(int,int,int)", "int due(int)", "int age(int,int)",
        "int again()", "int measured(int,int,int)", "int forget()", "int is(int)", "int next(int,int)",
        "int wants(int)", "int odds(int,int,int)", "int years(int,int,int)", "long part(int)", "int image(int)",
        "int from(int)", "int status(int)", "int count(int)", "long digest()",
    };
    private static final String[] FORBIDDEN = {
        "\\bthrow\\b", "\\bthrows\\b", "\\btry\\b", "\\bcatch\\b", "\\bsynchronized\\b", "\\bassert\\b", "->", "::",
        "Exact\\b", "static\\s*\\{", "\\bSystem\\.(?!arraycopy)", "\\bThread\\b", "\\bObject\\b", "@", "\\bprotected\\b",
        "\\bhashCode\\b", "\\btoString\\b",
    };
    private static final int METHOD_LINES = 60, PARAMETERS = 7, CLASSES = 12, FIELDS = 20;
    private static final long BYTES_PER_OBJECT = 20_000, BYTES_PER_CALLS = 20_000;

    private static int wrong = 0;

    private static void must(boolean holds, String what) {
        if (!holds) {
            wrong++;
            System.out.println("against the rules: " + what);
        }
    }

    private static String told(Method m) {
        StringBuilder parameters = new StringBuilder();
        for (Class<?> p : m.getParameterTypes()) {
            parameters.append(parameters.length() == 0 ? "" : ",").append(p.getSimpleName());
        }
        return m.getReturnType().getSimpleName() + " " + m.getName() + "(" + parameters + ")";
    }

    private static void face() {
        Set<String> found = new TreeSet<>();
        Set<String> names = new TreeSet<>();
        for (Method m : YearStretch.class.getDeclaredMethods()) {
            if (Modifier.isPublic(m.getModifiers())) {
                found.add(told(m));
                names.add(m.getName());
            } else {
                must(Modifier.isPrivate(m.getModifiers()) || m.isSynthetic(), m.getName() + " is visible");
            }
        }
        must(found.equals(new TreeSet<>(Arrays.asList(FACE))), "the face is " + found);
        must(Modifier.isFinal(YearStretch.class.getModifiers()), "the class is final");
        must(YearStretch.class.getDeclaredConstructors().length == 1, "one constructor");
        Set<String> constants = new TreeSet<>();
        for (Field f : YearStretch.class.getDeclaredFields()) {
            if (!Modifier.isPrivate(f.getModifiers())) {
                constants.add(f.getName());
            }
        }
        must(constants.equals(new TreeSet<>(Arrays.asList("NONE", "BAD", "NO", "FULL"))), "constants " + constants);
        inside(names);
    }

    private static void inside(Set<String> publicNames) {
        Class<?>[] classes = YearStretch.class.getDeclaredClasses();
        must(classes.length + 1 <= CLASSES, "classes: " + (classes.length + 1));
        for (Class<?> c : classes) {
            must(Modifier.isStatic(c.getModifiers()) && !Modifier.isPublic(c.getModifiers()), c.getName() + " is static, not public");
            for (Method m : c.getDeclaredMethods()) {
                must(!publicNames.contains(m.getName()), c.getName() + "." + m.getName() + " bears a public name");
            }
        }
        for (Class<?> c : YearStretch.class.getNestMembers()) {
            int fields = 0;
            for (Field f : c.getDeclaredFields()) {
                boolean isStatic = Modifier.isStatic(f.getModifiers());
                must(!isStatic || Modifier.isFinal(f.getModifiers()), c.getName() + "." + f.getName() + " is static, not final");
                fields += isStatic ? 0 : 1;
            }
            must(fields <= FIELDS, c.getName() + " has " + fields + " fields");
            for (Method m : c.getDeclaredMethods()) {
                must(m.getParameterCount() <= PARAMETERS, m.getName() + " has " + m.getParameterCount() + " parameters");
            }
        }
        for (Method m : YearStretch.class.getDeclaredMethods()) {
            must(Modifier.isPublic(m.getModifiers()) || !publicNames.contains(m.getName()), m.getName() + " bears a public name");
        }
    }

    private static void source() throws IOException {
        String source = Files.readString(Path.of("src/main/java/YearStretch.java"));
        must(source.chars().allMatch(c -> c > 0 && c < 128), "signs are 1 to 127");
        must(!Pattern.compile("^\\s*package\\b", Pattern.MULTILINE).matcher(source).find(), "no package");
        String code = source.replaceAll("//[^\n]*", "").replaceAll("\"[^\"\n]*\"", "\"\"");
        for (String word : FORBIDDEN) {
            must(!Pattern.compile(word).matcher(code).find(), word + " stands in the source");
        }
        Matcher imports = Pattern.compile("import ([^;]*);").matcher(code);
        while (imports.find()) {
            must(imports.group(1).matches("java\\.util\\.(Arrays|ArrayList|List|Iterator)"), imports.group(1) + " is imported");
        }
        int begun = 0;
        String[] lines = code.split("\n");
        for (int i = 0; i < lines.length; i++) {
            if (lines[i].matches("\\s{4}(\\s{4})?[A-Za-z].*\\) \\{")) {
                begun = i;
            }
            boolean ends = lines[i].matches("\\s{4}(\\s{4})?\\}");
            must(!ends || i - begun < METHOD_LINES || lines[begun].contains("class "), "a long method at line " + (begun + 1));
            begun = ends ? i : begun;
        }
    }

    private static long allocated() {
        return ((com.sun.management.ThreadMXBean) ManagementFactory.getThreadMXBean()).getCurrentThreadAllocatedBytes();
    }

    private static void everyCall(YearStretch x, int i) {
        x.weeks(i % 8, i % 100);
        x.peg(i % 7);
        x.turn(60);
        x.undo();
        x.image(i % 2);
        x.from(i % 2);
        x.of(i % 8, i % 4);
        x.about(i % 6, i % 5);
        x.then(60, 3);
        x.folded(60);
        x.done(60);
        x.when(-1);
        x.hands(20);
        x.pegIt(3, 20);
        x.choose(0, 1, 6);
        x.due(400);
        x.age(255, 60);
        x.again();
        x.measured(20, i % 8, 7);
        x.is(i % 6);
        x.next(i % 6, 20);
        x.wants(i % 6);
        x.odds(3, 8, 5);
        x.years(i, 60, 50);
        x.part(0);
        x.status(0);
        x.count(3);
        x.type(i % 128);
        x.read();
        x.digest();
    }

    private static void room() {
        everyCall(new YearStretch(), 0);
        long start = allocated();
        YearStretch x = new YearStretch();
        long made = allocated();
        for (int i = 0; i < 6; i++) {
            x.team(i, 3, i + 1);
            x.work(i, 40);
        }
        for (int i = 0; i < 16; i++) {
            everyCall(x, i);
        }
        long used = allocated();
        must(made - start <= BYTES_PER_OBJECT, "a new object takes " + (made - start) + " bytes");
        must(used - made <= BYTES_PER_CALLS, "a run of calls takes " + (used - made) + " bytes");
    }

    public static void main(String[] args) throws IOException {
        face();
        source();
        room();
        System.out.println(wrong == 0 ? "the rules are kept" : wrong + " rules are not kept");
        if (wrong != 0) {
            System.exit(1);
        }
    }
}
