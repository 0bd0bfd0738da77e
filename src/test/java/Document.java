import java.io.IOException;
import java.nio.file.Files;
import java.nio.file.Path;
import java.util.ArrayList;
import java.util.BitSet;
import java.util.List;
import java.util.regex.Matcher;
import java.util.regex.Pattern;

/** The document's terms and promises, and which of their words a test has quoted. */
final class Document {
    static final int PROMISES = 31;
    private static final Path PLACE = Path.of("../shared/DOC.md");

    private static final class Part {
        final String text;
        final BitSet quoted = new BitSet();

        Part(String text) {
            this.text = text.replaceAll("\\s+", " ").trim();
        }

        boolean quote(String sentence) {
            int at = text.indexOf(sentence);
            for (int next = at; next >= 0; next = text.indexOf(sentence, next + 1)) {
                quoted.set(next, next + sentence.length());
            }
            return at >= 0;
        }
    }

    /** Part 0 has the terms, part n promise n. */
    private final List<Part> parts = new ArrayList<>();

    Document() throws IOException {
        String whole = Files.readString(PLACE);
        String terms = between(whole, "## Terms\n", "## Promise 1:");
        // Lines that only say where the interface has its headings promise nothing.
        parts.add(new Part(terms.replaceAll("(?m)^Ahead of the calls .*$|^```.*$|^==== \\d ", "")));
        for (int n = 1; n <= PROMISES; n++) {
            String end = n < PROMISES ? "## Promise " + (n + 1) + ":" : "## Not promised";
            String promise = between(whole, "## Promise " + n + ":", end);
            parts.add(new Part(promise.replaceFirst("(?s)^.*?`[^`]*`:", "")));
        }
    }

    private static String between(String whole, String start, String end) {
        int from = whole.indexOf(start);
        int to = whole.indexOf(end, from);
        if (from < 0 || to < 0) {
            throw new IllegalStateException("the document has no part from " + start + " to " + end);
        }
        return whole.substring(from + start.length(), to);
    }

    /** Whether the promise says it, or else the terms do. */
    boolean quote(int promise, String sentence) {
        return parts.get(promise).quote(sentence) || parts.get(0).quote(sentence);
    }

    /** The words that no test has quoted, each with the part that has it. */
    List<String> unquoted() {
        List<String> words = new ArrayList<>();
        for (int n = 0; n < parts.size(); n++) {
            Part part = parts.get(n);
            Matcher word = Pattern.compile("\\w+").matcher(part.text);
            while (word.find()) {
                if (part.quoted.nextClearBit(word.start()) < word.end()) {
                    words.add((n == 0 ? "terms" : "promise " + n) + ": " + word.group() + " at " + word.start());
                }
            }
        }
        return words;
    }
}
