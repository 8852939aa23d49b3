import java.io.IOException;
import java.nio.file.Files;
import java.nio.file.Path;
import java.util.ArrayList;
import java.util.List;
import java.util.regex.Matcher;
import java.util.regex.Pattern;

// The sentences of ../shared/DOC.md that the tests are for, by section, with what has been quoted of each.
final class Document {
    private static final Path PLACE = Path.of("../shared/DOC.md");
    private static final int PROMISES = 37;
    // the promises stand at their numbers
    private static final int TERMS = 0, ABOUT = PROMISES + 1, SECTIONS = PROMISES + 2;

    private final String[] sections = new String[SECTIONS];
    private final boolean[][] quoted = new boolean[SECTIONS][];

    private Document(String text) {
        sections[ABOUT] = sentences(section(text, "What it is"));
        sections[TERMS] = sentences(section(text, "Terms"));
        for (int promise = 1; promise <= PROMISES; promise++) {
            // the call's own line ahead of what is promised is the face's, which FaceTest has
            sections[promise] = section(text, "Promise " + promise + ":[^\n]*").replaceFirst("^\\s*`[^`]*`:", "");
        }
        for (int i = 0; i < SECTIONS; i++) {
            sections[i] = plain(sections[i]);
            quoted[i] = new boolean[sections[i].length()];
        }
    }

    // what the interface says ahead of its calls is the face's, too
    private static String sentences(String section) {
        return section.replaceAll("Ahead of the calls [^.]*\\.", "").replaceAll("={8} \\d", "");
    }

    // null, and said so, where the document is not at hand: the tests themselves don't need it
    static Document found() throws IOException {
        if (!Files.exists(PLACE)) {
            System.out.println("there is no " + PLACE + ": the sentences are not compared with it");
            return null;
        }
        return new Document(Files.readString(PLACE));
    }

    private static String section(String text, String heading) {
        Matcher m = Pattern.compile("^## " + heading + "\n(.*?)(?=^## |\\z)", Pattern.MULTILINE | Pattern.DOTALL).matcher(text);
        return m.find() ? m.group(1) : "";
    }

    private static String plain(String text) {
        return text.replace("```text", "").replace("```", "").replaceAll("\\s+", " ").trim();
    }

    // a sentence stands in the section of its promise or in what stands before the promises
    boolean quote(int[] promises, String sentence) {
        boolean stands = mark(TERMS, sentence) | mark(ABOUT, sentence);
        for (int promise : promises) {
            stands |= mark(promise, sentence);
        }
        return stands;
    }

    private boolean mark(int section, String sentence) {
        int at = sections[section].indexOf(sentence);
        boolean stands = at >= 0;
        while (at >= 0) {
            for (int i = at; i < at + sentence.length(); i++) {
                quoted[section][i] = true;
            }
            at = sections[section].indexOf(sentence, at + 1);
        }
        return stands;
    }

    private static String nameOf(int section) {
        return section == TERMS ? "the terms" : section == ABOUT ? "what it is" : "promise " + section;
    }

    List<String> leftOut() {
        List<String> left = new ArrayList<>();
        for (int section = 0; section < SECTIONS; section++) {
            StringBuilder run = new StringBuilder();
            for (int i = 0; i <= sections[section].length(); i++) {
                boolean open = i < sections[section].length() && !quoted[section][i];
                if (open) {
                    run.append(sections[section].charAt(i));
                    continue;
                }
                if (run.chars().anyMatch(Character::isLetterOrDigit)) {
                    left.add(nameOf(section) + ": " + run.toString().trim());
                }
                run.setLength(0);
            }
            if (sections[section].isEmpty()) {
                left.add(nameOf(section) + ", which is not there");
            }
        }
        return left;
    }
}
