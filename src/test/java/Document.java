import java.io.IOException;
import java.io.UncheckedIOException;
import java.nio.file.Files;
import java.nio.file.Path;

/** Looks for words in ../shared/DOC.md, so that a test cannot hold to words that do not stand there. */
final class Document {
    private static final String TEXT = read();
    private static final int PROMISES = 48;
    private static final boolean[] NAMED = new boolean[PROMISES + 1];

    private Document() {
    }

    private static String read() {
        try {
            return Files.readString(Path.of("../shared/DOC.md")).replaceAll("\\s+", " ");
        } catch (IOException e) {
            throw new UncheckedIOException(e);
        }
    }

    static boolean tells(String words) {
        return TEXT.contains(words);
    }

    static boolean termsTell(String words) {
        return part("## Terms ", "## Promise 1:").contains(words);
    }

    static boolean promiseTells(int number, String words) {
        NAMED[number] = true;
        String next = number == PROMISES ? "## Not promised" : "## Promise " + (number + 1) + ":";
        return part("## Promise " + number + ":", next).contains(words);
    }

    /** The first promise of which no test has told words; 0 if each was told of. */
    static int firstNotNamed() {
        for (int number = 1; number <= PROMISES; number++) {
            if (!NAMED[number]) {
                return number;
            }
        }
        return 0;
    }

    private static String part(String from, String to) {
        int start = TEXT.indexOf(from);
        int end = TEXT.indexOf(to, Math.max(start, 0));
        return start < 0 || end < 0 ? "" : TEXT.substring(start, end);
    }
}
