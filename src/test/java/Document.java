import java.io.IOException;
import java.nio.file.Files;
import java.nio.file.Path;
import java.util.ArrayList;
import java.util.List;
import java.util.regex.Matcher;
import java.util.regex.Pattern;

// The sentences of ../shared/DOC.md that the tests are for, by section, with what has been quoted of each.
final class Document {
    private static final Path PLACE = Path.of("../shared/DOC.md");
    private static final int PROMISES = 37;
    private static final String ABOUT = "What it is", TERMS = "Terms";

    private final String about;
    private final String[] sections = new String[PROMISES + 1];
    private final boolean[][] quoted = new boolean[PROMISES + 1][];

    private Document(String text) {
        about = section(text, ABOUT);
        sections[0] = section(text, TERMS).replaceAll("Ahead of the calls [^.]*\\.", "").replaceAll("={8} \\d", "");
        for (int promise = 1; promise <= PROMISES; promise++) {
            // the call's own line ahead of what is promised is no sentence
            sections[promise] = section(text, "Promise " + promise + ":[^\n]*").replaceFirst("^\\s*`[^`]*`:", "");
        }
        for (int i = 0; i <= PROMISES; i++) {
            sections[i] = plain(sections[i]);
            quoted[i] = new boolean[sections[i].length()];
        }
    }

    // null, and said so, where the document is not at hand: the tests themselves don't need it
    static Document found() throws IOException {
        if (!Files.exists(PLACE)) {
            System.out.println("there is no " + PLACE + ": the sentences are not compared with it");
            return null;
        }
        return new Document(Files.readString(PLACE));
    }

    private static String section(String text, String heading) {
        Matcher m = Pattern.compile("^## " + heading + "\n(.*?)(?=^## |\\z)", Pattern.MULTILINE | Pattern.DOTALL).matcher(text);
        return m.find() ? m.group(1) : "";
    }

    private static String plain(String text) {
        return text.replace("```text", "").replace("```", "").replaceAll("\\s+", " ").trim();
    }

    // a sentence stands in the section of its promise or in the terms
    boolean quote(int[] promises, String sentence) {
        boolean stands = mark(0, sentence) || plain(about).contains(sentence);
        for (int promise : promises) {
            stands |= mark(promise, sentence);
        }
        return stands;
    }

    private boolean mark(int section, String sentence) {
        int at = sections[section].indexOf(sentence);
        boolean stands = at >= 0;
        while (at >= 0) {
            for (int i = at; i < at + sentence.length(); i++) {
                quoted[section][i] = true;
            }
            at = sections[section].indexOf(sentence, at + 1);
        }
        return stands;
    }

    List<String> leftOut() {
        List<String> left = new ArrayList<>();
        for (int section = 0; section <= PROMISES; section++) {
            StringBuilder run = new StringBuilder();
            for (int i = 0; i <= sections[section].length(); i++) {
                boolean open = i < sections[section].length() && !quoted[section][i];
                if (open) {
                    run.append(sections[section].charAt(i));
                    continue;
                }
                if (run.chars().anyMatch(Character::isLetterOrDigit)) {
                    left.add((section == 0 ? TERMS : "promise " + section) + ": " + run.toString().trim());
                }
                run.setLength(0);
            }
            if (sections[section].isEmpty()) {
                left.add("section " + section + ", which is not there");
            }
        }
        return left;
    }
}
