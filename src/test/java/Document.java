import java.io.IOException;
import java.nio.charset.StandardCharsets;
import java.nio.file.Files;
import java.nio.file.Path;
import java.util.regex.Matcher;
import java.util.regex.Pattern;

/** Holds the names of the edges' tests against the document itself. */
final class Document {
    private static final Path DOC = Path.of("../shared/DOC.md");
    private static final int PROMISES = 48;
    private static final Pattern PROMISE = Pattern.compile("(?s)## Promise (\\d+): [^\n]*\n+`[^`]*`: (.*?)\n\n(?=## )");
    private static final Pattern TERMS = Pattern.compile("(?s)## Terms\n(.*?)\nAhead of the calls");

    private final String[] promises = new String[PROMISES + 1];
    private final boolean[][] quoted = new boolean[PROMISES + 1][];
    /** The Terms stand at place 0. */
    private static final int AT_TERMS = 0;

    private Document(String text) {
        Matcher terms = TERMS.matcher(text);
        if (terms.find()) put(AT_TERMS, terms.group(1));
        Matcher m = PROMISE.matcher(text);
        while (m.find()) put(Integer.parseInt(m.group(1)), m.group(2));
    }

    private void put(int number, String words) {
        promises[number] = words.replaceAll("======== \\d|```(text)?", "").replaceAll("\\s+", " ").trim();
        quoted[number] = new boolean[promises[number].length()];
    }

    /** Words of a promise, or of the Terms on which it rests, are quoted wherever they stand. */
    private void quote(Edges.Quote q) {
        boolean there = quoteIn(q.promise(), q.words()) | quoteIn(AT_TERMS, q.words());
        Checks.due(q.promise() + " '" + q.words() + "' stands in the document", there ? 1 : 0, 1);
    }

    private boolean quoteIn(int number, String words) {
        if (promises[number] == null) return false;
        int from = promises[number].indexOf(words);
        boolean there = from >= 0;
        while (from >= 0) {
            for (int k = from; k < from + words.length(); k++) quoted[number][k] = true;
            from = promises[number].indexOf(words, from + 1);
        }
        return there;
    }

    private void tellUnquoted(int number) {
        Checks.due("promise " + number + " is found", promises[number] == null ? 0 : 1, 1);
        if (promises[number] == null) return;
        StringBuilder rest = new StringBuilder();
        for (int k = 0; k < promises[number].length(); k++) {
            char c = promises[number].charAt(k);
            if (!quoted[number][k] && Character.isLetterOrDigit(c)) rest.append(c);
            else if (rest.length() > 0 && rest.charAt(rest.length() - 1) != ' ') rest.append(' ');
        }
        String words = rest.toString().trim();
        Checks.due("words of promise " + number + " without a test: " + words, words.length(), 0);
    }

    /** Each name stands in the document, and each word of the Terms and of the promises in a name. */
    static void hold() throws IOException {
        Document d = new Document(Files.readString(DOC, StandardCharsets.UTF_8));
        for (Edges.Quote q : Edges.quotes()) d.quote(q);
        for (int number = 0; number <= PROMISES; number++) d.tellUnquoted(number);
    }
}
