import java.io.IOException;
import java.nio.file.Files;
import java.nio.file.Path;
import java.util.regex.Matcher;
import java.util.regex.Pattern;

/**
 * Checks that stand behind a sentence of the document each: of() quotes it to the letter, and the checks
 * up to the next of() are its own. end() fails if a sentence of the Terms or of a promise was not quoted,
 * or was quoted without a check.
 */
final class Sentences extends Checks {
    // Headings, fences and what only names the calls: no sentences that a test could be of.
    private static final Pattern NO_SENTENCE = Pattern.compile("## Terms|## Promise \\d+: [A-Za-z ]+|```text|```"
            + "|==== \\d\\.|Ahead of the calls [^.]*\\.|`[^`]*\\([^`]*\\)`:");

    private final String doc;
    private final boolean[] quoted;
    private int from;
    private int to;
    private String sentence = "";
    private int askedBefore;

    Sentences() throws IOException {
        doc = Files.readString(Path.of("../shared/DOC.md")).replaceAll("\\s+", " ");
        quoted = new boolean[doc.length()];
    }

    void inTerms() {
        within("## Terms", "## Promise 1: ");
    }

    void inPromise(int n) {
        within("## Promise " + n + ": ", n == 62 ? "## Not promised" : "## Promise " + (n + 1) + ": ");
    }

    void inIntroduction() {
        within("## What it is", "## The public face");
    }

    private void within(String begin, String end) {
        from = doc.indexOf(begin);
        to = doc.indexOf(end, from);
        if (from < 0 || to < 0) {
            throw new IllegalStateException("the document has no " + begin + " ahead of " + end);
        }
    }

    /** The checks from here on are this sentence's; it stands in the part of the document told latest. */
    void of(String quote) {
        leave();
        sentence = quote;
        int at = doc.indexOf(quote, from);
        while (at >= 0 && at + quote.length() <= to && quoted[at]) {
            at = doc.indexOf(quote, at + 1);
        }
        boolean is = at >= 0 && at + quote.length() <= to;
        due("the document says so", is ? 1 : 0, 1);
        for (int i = at; is && i < at + quote.length(); i++) {
            quoted[i] = true;
        }
        askedBefore = asked();
    }

    private void leave() {
        if (!sentence.isEmpty()) {
            due("has a check of its own", asked() > askedBefore ? 1 : 0, 1);
        }
    }

    @Override
    String about() {
        return "[" + sentence + "] ";
    }

    @Override
    void end() {
        leave();
        sentence = "";
        inTerms();
        allowed();
        int begin = from;
        int end = doc.indexOf("## Not promised");
        StringBuilder open = new StringBuilder();
        for (int i = begin; i < end; i++) {
            boolean is = !quoted[i] && doc.charAt(i) != ' ';
            if (is || open.length() > 0 && !quoted[i]) {
                open.append(doc.charAt(i));
            }
            if (quoted[i] && open.length() > 0) {
                due("without a test: " + open, 1, 0);
                open.setLength(0);
            }
        }
        due("without a test: " + open, open.toString().isBlank() ? 0 : 1, 0);
        super.end();
    }

    private void allowed() {
        Matcher m = NO_SENTENCE.matcher(doc);
        for (int at = from; at < doc.length() && m.find(at); at = m.end()) {
            for (int i = m.start(); i < m.end(); i++) {
                quoted[i] = true;
            }
        }
    }
}
