import java.io.IOException;
import java.lang.reflect.InvocationTargetException;
import java.lang.reflect.Method;
import java.lang.reflect.Modifier;
import java.nio.file.Files;
import java.nio.file.Path;
import java.util.ArrayList;
import java.util.List;
import java.util.TreeSet;
import java.util.regex.MatchResult;
import java.util.regex.Pattern;
import java.util.stream.Collectors;
import java.util.stream.Stream;

// README.md by its own words: its calls answer what stands behind them, its text can be read, its table has every call
// and its list every test.
public final class ReadmeTest {
    private static int wrong = 0;

    private static void must(boolean holds, String what) {
        if (!holds) {
            wrong++;
            System.out.println("README.md: " + what);
        }
    }

    private static List<MatchResult> found(String pattern, String text) {
        return Pattern.compile(pattern, Pattern.MULTILINE | Pattern.DOTALL).matcher(text).results().collect(Collectors.toList());
    }

    private static String block(String kind, String readme) {
        List<MatchResult> blocks = found("^```" + kind + "\\n(.*?)^```", readme);
        must(blocks.size() == 1, blocks.size() + " blocks of " + kind);
        return blocks.isEmpty() ? "" : blocks.get(0).group(1);
    }

    private static long call(YearStretch x, String name, String numbers) throws IllegalAccessException, InvocationTargetException {
        List<Object> told = new ArrayList<>();
        for (MatchResult number : found("-?\\d+", numbers)) {
            told.add(Integer.valueOf(number.group()));
        }
        for (Method m : YearStretch.class.getDeclaredMethods()) {
            if (Modifier.isPublic(m.getModifiers()) && m.getName().equals(name) && m.getParameterCount() == told.size()) {
                return ((Number) m.invoke(x, told.toArray())).longValue();
            }
        }
        must(false, "there is no call " + name + "(" + numbers + ")");
        return 0;
    }

    private static void example(String code) throws IllegalAccessException, InvocationTargetException {
        YearStretch x = new YearStretch();
        String[] lines = code.split("\n");
        must(lines[0].equals("YearStretch x = new YearStretch();"), "the example begins with a new object");
        for (int i = 1; i < lines.length; i++) {
            List<MatchResult> parts = found("^x\\.(\\w+)\\(([-\\d, ]*)\\); +// (-?\\d+): .*$", lines[i]);
            must(parts.size() == 1, "'" + lines[i] + "' tells a call and its answer");
            for (MatchResult part : parts) {
                long got = call(x, part.group(1), part.group(2));
                must(got == Long.parseLong(part.group(3)), "'" + lines[i] + "' answered " + got);
            }
        }
    }

    private static void text(String block) {
        YearStretch x = new YearStretch();
        for (char c : block.trim().toCharArray()) {
            x.type(c);
        }
        must(x.read() == found(";", block).size(), "its text answered " + x.read());
    }

    private static void table(String readme) {
        TreeSet<String> told = new TreeSet<>();
        for (MatchResult row : found("^\\| [a-z ]+ \\| (`[^\\n]*) \\|$", readme)) {
            for (MatchResult name : found("`(\\w+)`", row.group(1))) {
                told.add(name.group(1));
            }
        }
        TreeSet<String> calls = new TreeSet<>();
        for (Method m : YearStretch.class.getDeclaredMethods()) {
            if (Modifier.isPublic(m.getModifiers())) {
                calls.add(m.getName());
            }
        }
        must(told.equals(calls), "its table has " + told);
    }

    private static void tests(String readme) throws IOException {
        TreeSet<String> told = new TreeSet<>();
        for (MatchResult name : found("^- `(\\w+Test)`:", readme)) {
            told.add(name.group(1) + ".java");
        }
        TreeSet<String> there;
        try (Stream<Path> files = Files.list(Path.of("src/test/java"))) {
            there = files.map(f -> f.getFileName().toString()).filter(f -> f.endsWith("Test.java"))
                    .collect(Collectors.toCollection(TreeSet::new));
        }
        must(told.equals(there), "its tests are " + told + ", but there are " + there);
    }

    public static void main(String[] args) throws Exception {
        String readme = Files.readString(Path.of("README.md"));
        example(block("java", readme));
        text(block("text", readme));
        table(readme);
        tests(readme);
        System.out.println(wrong == 0 ? "README.md is as it says" : wrong + " faults of README.md");
        if (wrong != 0) {
            System.exit(1);
        }
    }
}
