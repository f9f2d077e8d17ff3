import java.io.IOException;
import java.io.UncheckedIOException;
import java.nio.file.Files;
import java.nio.file.Path;

/**
 * Looks for words in ../shared/DOC.md, so that a test cannot hold to words that do not stand there.
 * Where the document itself is not there, all words are taken as told: the answers can be tested without it.
 */
final class Document {
    private static final Path FILE = Path.of("../shared/DOC.md");
    private static final boolean IS_THERE = Files.isReadable(FILE);
    private static final String TEXT = IS_THERE ? read() : "";
    private static final int PROMISES = 48;
    private static final boolean[] NAMED = new boolean[PROMISES + 1];

    private Document() {
    }

    private static String read() {
        try {
            return Files.readString(FILE).replaceAll("\\s+", " ");
        } catch (IOException e) {
            throw new UncheckedIOException(e);
        }
    }

    static boolean tells(String words) {
        return !IS_THERE || TEXT.contains(words);
    }

    static boolean termsTell(String words) {
        return stands(words, "## Terms ", "## Promise 1:");
    }

    static boolean promiseTells(int number, String words) {
        NAMED[number] = true;
        String next = number == PROMISES ? "## Not promised" : "## Promise " + (number + 1) + ":";
        return stands(words, "## Promise " + number + ":", next);
    }

    /** The first promise of which no test has told words; 0 if each was told of. */
    static int firstNotNamed() {
        for (int number = 1; number <= PROMISES; number++) {
            if (!NAMED[number]) {
                return number;
            }
        }
        return 0;
    }

    private static boolean stands(String words, String from, String to) {
        int start = TEXT.indexOf(from);
        int end = TEXT.indexOf(to, Math.max(start, 0));
        return !IS_THERE || start >= 0 && end >= 0 && TEXT.substring(start, end).contains(words);
    }
}
