import java.io.IOException;
import java.io.UncheckedIOException;
import java.nio.charset.StandardCharsets;
import java.nio.file.Files;
import java.nio.file.Path;
import java.util.Map;
import java.util.TreeMap;

/**
 * Boundary cases, each a test of its own under the words of the document that name it. The
 * words have to stand there, and all words of a promise have to be under some test: so a
 * sentence that is changed, or forgotten here, is told.
 */
final class Edges {
    interface Case {
        void look();
    }

    private static final Path DOCUMENT = Path.of("../shared/DOC.md");
    private static final Map<String, String> SENTENCES = new TreeMap<>();
    private static final Map<String, boolean[]> NAMED = new TreeMap<>();
    private static String part = "";
    private static int cases = 0;

    private Edges() {
    }

    /** The cases that follow are of this promise. */
    static void promise(int number) {
        String head = "## Promise " + number + ": ";
        String section = between(document(), head, "## ");
        // ahead of ": stands only how the call is written
        open("promise " + number, section.substring(section.indexOf("`: ") + 3));
    }

    /** The cases that follow are of one of the two numbered Terms. */
    static void terms(int number) {
        String all = between(document(), "## Terms ", "Ahead of the calls ");
        String[] both = all.replace("```text", "").replace("```", "").split("2\\. (?=BELLS: )");
        open("term " + number, number == 1 ? both[0].substring(both[0].indexOf("1. ") + 3) : both[1]);
    }

    static void edge(String words, Case test) {
        String sentences = SENTENCES.get(part);
        int at = sentences.indexOf(words);
        Check.where(part + ", \"" + words + "\": ");
        Check.due("the words stand in the document", at >= 0, true);
        for (; at >= 0; at = sentences.indexOf(words, at + 1)) {
            for (int i = at; i < at + words.length(); i++) {
                NAMED.get(part)[i] = true;
            }
        }
        int looked = Check.looked();
        test.look();
        Check.due("something was looked at", Check.looked() > looked, true);
        Check.where("");
        cases++;
    }

    static void finish() {
        for (Map.Entry<String, String> one : SENTENCES.entrySet()) {
            Check.dueText("words of " + one.getKey() + " without a test", unnamed(one.getValue(), NAMED.get(one.getKey())), "");
        }
        System.out.println(cases + " boundary cases");
        Check.finish();
    }

    private static void open(String name, String text) {
        part = name;
        SENTENCES.put(name, text.replaceAll("\\s+", " ").trim());
        NAMED.put(name, new boolean[SENTENCES.get(name).length()]);
    }

    /** The letters and digits that no test has named, with a blank for what lies between. */
    private static String unnamed(String text, boolean[] named) {
        StringBuilder left = new StringBuilder();
        for (int i = 0; i < text.length(); i++) {
            left.append(!named[i] && Character.isLetterOrDigit(text.charAt(i)) ? text.charAt(i) : ' ');
        }
        return left.toString().replaceAll("\\s+", " ").trim();
    }

    private static String between(String text, String head, String next) {
        int from = text.indexOf(head);
        if (from < 0) {
            throw new IllegalStateException("the document has no " + head);
        }
        int to = text.indexOf(next, from + head.length());
        return text.substring(from, to < 0 ? text.length() : to);
    }

    private static String document() {
        try {
            return Files.readString(DOCUMENT, StandardCharsets.UTF_8).replaceAll("\\s+", " ");
        } catch (IOException e) {
            throw new UncheckedIOException(e);
        }
    }
}
