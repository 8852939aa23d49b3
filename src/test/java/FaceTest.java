import java.io.IOException;
import java.lang.reflect.Constructor;
import java.lang.reflect.Field;
import java.lang.reflect.Method;
import java.lang.reflect.Modifier;
import java.nio.file.Files;
import java.nio.file.Path;
import java.util.ArrayList;
import java.util.Arrays;
import java.util.List;
import java.util.TreeSet;
import java.util.regex.Matcher;
import java.util.regex.Pattern;

// The public face as the document writes it, compared with the class and with its source: every constant, constructor
// and call, no other, in the document's order, under what the interface says ahead of them.
public final class FaceTest {
    private static final Path DOCUMENT = Path.of("../shared/DOC.md");
    private static final Path SOURCE = Path.of("src/main/java/YearStretch.java");
    private static final int CALLS = 36, HEADINGS = 5;

    private static int wrong = 0;

    private static void must(boolean holds, String what) {
        if (!holds) {
            wrong++;
            System.out.println("not the document's face: " + what);
        }
    }

    private static List<String> found(String pattern, String text) {
        List<String> found = new ArrayList<>();
        Matcher m = Pattern.compile(pattern, Pattern.MULTILINE | Pattern.DOTALL).matcher(text);
        while (m.find()) {
            found.add(m.group(1));
        }
        return found;
    }

    // what the class itself shows, written as the document writes it, but for the names of the numbers
    private static TreeSet<String> shown() throws IllegalAccessException {
        TreeSet<String> shown = new TreeSet<>();
        for (Method m : YearStretch.class.getDeclaredMethods()) {
            if (Modifier.isPublic(m.getModifiers())) {
                shown.add(m.getReturnType() + " " + m.getName() + Arrays.toString(m.getParameterTypes()));
                must(m.getModifiers() == Modifier.PUBLIC, m.getName() + " is public and nothing else");
                must(m.getExceptionTypes().length == 0, m.getName() + " tells no exception");
            }
        }
        for (Constructor<?> c : YearStretch.class.getDeclaredConstructors()) {
            shown.add(c.getDeclaringClass().getName() + Arrays.toString(c.getParameterTypes()));
            must(Modifier.isPublic(c.getModifiers()), "the constructor is public");
        }
        for (Field f : YearStretch.class.getDeclaredFields()) {
            if (Modifier.isPublic(f.getModifiers())) {
                must(Modifier.isStatic(f.getModifiers()) && Modifier.isFinal(f.getModifiers()), f.getName() + " is a constant");
                shown.add(f.getType() + " " + f.getName() + " = " + f.get(null));
            }
        }
        return shown;
    }

    private static TreeSet<String> written(List<String> face) {
        TreeSet<String> written = new TreeSet<>();
        for (String line : face) {
            if (line.startsWith("static final int ")) {
                for (String constant : line.substring("static final int ".length()).split(", ")) {
                    written.add("int " + constant);
                }
                continue;
            }
            String types = line.replaceAll("^[^(]*\\(|\\)$", "").replaceAll("(\\w+) \\w+", "$1");
            written.add(line.replaceAll("\\(.*", "") + "[" + types + "]");
        }
        return written;
    }

    private static void inOrder(List<String> face, String source) {
        int at = 0;
        for (String line : face) {
            String head = "\n    public " + line + (line.contains("(") ? " {" : ";");
            int found = source.indexOf(head);
            must(found >= at, "'" + line + "' stands in its place in the source");
            at = Math.max(at, found);
        }
    }

    private static void underHeadings(String document, String source) {
        List<String> lines = found("^(Ahead of the calls .*? the interface says: ----[^\\n]*)\\.$", document);
        must(lines.size() == HEADINGS, lines.size() + " headings");
        for (String line : lines) {
            String heading = line.substring(line.indexOf("----"));
            List<String> parts = found("// " + Pattern.quote(heading) + "\\n(.*?)(?=// ----|\\z)", source);
            must(parts.size() == 1, "'" + heading + "' stands once in the source");
            String calls = parts.isEmpty() ? "" : parts.get(0);
            must(found("^    public \\w+ (\\w+)\\(", calls).equals(found("`(\\w+)`", line)), "the calls under '" + heading + "'");
        }
    }

    private static void byPromises(List<String> calls, String document) {
        List<String> heads = found("^## Promise (\\d+: [^\\n]*)$", document);
        List<String> told = found("^## Promise \\d+:[^\\n]*\\n+`([^`]*)`:", document);
        must(heads.size() == CALLS + 1 && told.size() == heads.size(), heads.size() + " promises");
        for (int i = 0; i < told.size() && i < calls.size(); i++) {
            String name = i == 0 ? "A new object" : calls.get(i).replaceAll("^\\w+ |\\(.*", "");
            must(heads.get(i).equals(i + 1 + ": " + name), "promise " + heads.get(i));
            must(told.get(i).equals(calls.get(i)), "'" + told.get(i) + "' of promise " + (i + 1));
        }
    }

    public static void main(String[] args) throws IOException, IllegalAccessException {
        String document = Files.readString(DOCUMENT);
        String source = Files.readString(SOURCE);
        must(found("^(public final class YearStretch \\{)$", source).size() == 1, "the class is public and final");
        List<String> block = found("^## The public face\\n.*?```java\\n(.*?)```", document);
        must(block.size() == 1, "the document has a face");
        List<String> face = block.isEmpty() ? List.of() : found("^    public ([^;\\n]*);$", block.get(0));
        must(face.size() == CALLS + 2, face.size() + " lines");
        must(shown().equals(written(face)), "the class shows " + shown() + ", the document writes " + written(face));
        inOrder(face, source);
        underHeadings(document, source);
        byPromises(face.isEmpty() ? face : face.subList(1, face.size()), document);
        System.out.println(wrong == 0 ? "the face is the document's" : wrong + " faults of the face");
        if (wrong != 0) {
            System.exit(1);
        }
    }
}
