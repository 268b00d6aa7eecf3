import java.io.IOException;
import java.nio.file.Files;
import java.nio.file.Path;

/**
 * The words of the document, so that no sentence is left without a test: a test says which sentence
 * it is of, that sentence must stand there letter by letter, and in the end all must have been said.
 */
final class Document {
    /** Section 0 is "Terms", section p is "Promise p". */
    private static final int SECTIONS = 33;
    private static final String[] words = new String[SECTIONS];
    private static final boolean[][] said = new boolean[SECTIONS][];
    private static int asked;
    private static int sentences;
    private static String latest = "";

    private Document() {
    }

    static void open(String path) throws IOException {
        String all = Files.readString(Path.of(path));
        for (int s = 0; s < SECTIONS; s++) {
            words[s] = section(all, s == 0 ? "## Terms\n" : "## Promise " + s + ":");
            said[s] = new boolean[words[s].length()];
        }
    }

    private static String section(String all, String head) {
        int from = all.indexOf(head);
        if (from < 0) {
            throw new IllegalStateException("the document has no " + head);
        }
        int to = all.indexOf("\n## ", from);
        String body = all.substring(all.indexOf('\n', from), to < 0 ? all.length() : to);
        return body.replaceAll("(?m)^```.*$", "")
            .replaceAll("(?m)^Ahead of the calls .*$", "")
            .replaceAll("(?m)^======== \\d", "")
            .replaceAll("(?m)^`[^`]*`:", "")
            .replaceAll("\\s+", " ");
    }

    /** What is asked from here on is the test of a sentence. */
    static void says(int section, String sentence) {
        endSentence();
        sentences++;
        latest = sentence;
        Check.about((section == 0 ? "Terms" : "Promise " + section) + " \"" + sentence + "\"");
        int at = firstUnsaid(section, sentence);
        Check.holds("that the document says it", at >= 0);
        for (int i = 0; at >= 0 && i < sentence.length(); i++) {
            said[section][at + i] = true;
        }
        asked = Check.askedOnes();
    }

    private static int firstUnsaid(int section, String sentence) {
        int first = words[section].indexOf(sentence);
        int at = first;
        while (at >= 0 && said[section][at]) {
            at = words[section].indexOf(sentence, at + 1);
        }
        return at >= 0 ? at : first;
    }

    private static void endSentence() {
        if (sentences > 0 && asked == Check.askedOnes()) {
            Check.holds("that \"" + latest + "\" has a test", false);
        }
    }

    /** Every letter and figure of the document has been said. */
    static void close() {
        endSentence();
        Check.about("");
        for (int s = 0; s < SECTIONS; s++) {
            StringBuilder left = new StringBuilder();
            for (int i = 0; i < words[s].length(); i++) {
                boolean counts = Character.isLetterOrDigit(words[s].charAt(i)) && !said[s][i];
                left.append(counts ? words[s].charAt(i) : ' ');
            }
            String rest = left.toString().trim().replaceAll("\\s+", " ");
            Check.holds("section " + s + " has a test of each sentence, without one: " + rest, rest.isEmpty());
        }
        System.out.println(sentences + " sentences");
    }
}
