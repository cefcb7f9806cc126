import java.io.IOException;
import java.io.UncheckedIOException;
import java.nio.file.Files;
import java.nio.file.Path;
import java.util.List;
import java.util.regex.Matcher;
import java.util.regex.Pattern;
import java.util.stream.Stream;

/**
 * Each sentence that a test names stands in the document, and each of the document's is named by a test. A quotation is
 * word for word; " .. " in it stands for a gap; "Promise 7: " ahead of it tells where it stands.
 */
public final class SentenceTest {
    private static final Desk DESK = new Desk("SentenceTest");
    private static final Pattern QUOTED = Pattern.compile("sentence\\(\"([^\"]*)\"\\)");
    private static final Pattern OF_PROMISE = Pattern.compile("(Promise \\d+): (.*)");
    private static final Pattern HEADING = Pattern.compile("## Promise \\d+: [^`]*`[^`]*`: ");
    private static final int FIRST_PROMISE = 1;
    private static final int LAST_PROMISE = 33;
    /** Names and joints between sentences are shorter: ". WORDS of a WALKER: ". */
    private static final int LONGEST_JOINT = 20;

    private final String document;
    private final boolean[] named;

    private SentenceTest(String document) {
        this.document = document;
        named = new boolean[document.length()];
    }

    public static void main(String[] args) throws IOException {
        String text = Files.readString(Path.of("../shared/DOC.md")).replaceAll("\\s+", " ");
        SentenceTest t = new SentenceTest(text);
        try (Stream<Path> files = Files.list(Path.of("src/test/java"))) {
            files.filter(f -> f.toString().endsWith("EdgeTest.java") || f.endsWith("RefusalTest.java")).sorted().forEach(t::readFile);
        }
        t.nothingLeftOut(text.indexOf("## Terms"), text.indexOf("## Not promised"));
        DESK.close();
    }

    private void readFile(Path file) {
        try {
            Matcher m = QUOTED.matcher(Files.readString(file));
            while (m.find()) {
                find(file.getFileName() + ": " + m.group(1), m.group(1));
            }
        } catch (IOException e) {
            throw new UncheckedIOException(e);
        }
    }

    private void find(String what, String quoted) {
        int from = 0;
        int to = document.length();
        String words = quoted;
        Matcher m = OF_PROMISE.matcher(quoted);
        if (m.matches()) {
            words = m.group(2);
            from = document.indexOf("## " + m.group(1) + ":");
            to = document.indexOf("## ", from + 1);
            DESK.holds(what + ": the promise is there, which", from >= 0 && to > from);
        }
        for (String piece : List.of(words.split(" \\.\\. "))) {
            int at = document.indexOf(piece, Math.max(from, 0));
            DESK.holds(what + " stands in the document, which", at >= 0 && at + piece.length() <= to);
            for (int i = Math.max(at, 0); at >= 0 && i < at + piece.length(); i++) {
                named[i] = true;
            }
            from = at + piece.length();
        }
    }

    private void nothingLeftOut(int first, int last) {
        DESK.holds("the parts of the document are there, which", first >= 0 && last > first);
        Matcher heading = HEADING.matcher(document);
        int promises = 0;
        while (heading.find()) {
            promises++;
            for (int i = heading.start(); i < heading.end(); i++) {
                named[i] = true;
            }
        }
        DESK.due("promises", promises, LAST_PROMISE - FIRST_PROMISE + 1);
        int began = first;
        for (int i = first; i <= last; i++) {
            if (i == last || named[i] && i > began) {
                String rest = document.substring(began, i);
                DESK.holds("'" + rest + "' is named by a test, which", rest.length() <= LONGEST_JOINT);
            }
            if (i < last && named[i]) {
                began = i + 1;
            }
        }
    }
}
