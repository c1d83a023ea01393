import java.io.IOException;
import java.io.UncheckedIOException;
import java.nio.file.Files;
import java.nio.file.Path;

/**
 * Names what the checks behind it are for: a promise, and the sentence of the document that names the
 * boundary case. The sentence has to stand under that promise, or in what the document says ahead of promise 1.
 */
final class Edge {
    private static final Path DOCUMENT = Path.of("../shared/DOC.md");
    private static final int PROMISES = 38;

    private static final boolean[] named = new boolean[PROMISES + 1];
    private static String document = null;

    private Edge() {
    }

    static void of(int promise, String sentence) {
        Checks.about("");
        boolean stands = part("# LeadPark", "## Promise 1:").contains(oneLine(sentence))
                || part("## Promise " + promise + ":", "## ").contains(oneLine(sentence));
        Checks.isTrue("promise " + promise + " has the sentence [" + sentence + "]", stands);
        Checks.about("promise " + promise + " [" + sentence + "]: ");
        named[promise] = true;
        String list = System.getProperty("edges");
        if (list != null) {
            write(Path.of(list), promise + " " + oneLine(sentence) + "\n");
        }
    }

    /** Ends a test: each promise from the first to the last has been named. */
    static void finish(int first, int last) {
        Checks.about("");
        for (int promise = first; promise <= last; promise++) {
            Checks.isTrue("promise " + promise + " has a boundary case", named[promise]);
        }
        Checks.finish();
    }

    private static String part(String from, String to) {
        if (document == null) {
            document = oneLine(read());
        }
        int begin = document.indexOf(from);
        int end = begin < 0 ? -1 : document.indexOf(to, begin + from.length());
        return begin < 0 ? "" : end < 0 ? document.substring(begin) : document.substring(begin, end);
    }

    private static String oneLine(String text) {
        return text.replaceAll("\\s+", " ");
    }

    private static String read() {
        try {
            return Files.readString(DOCUMENT);
        } catch (IOException e) {
            throw new UncheckedIOException(e);
        }
    }

    /** With -Dedges=FILE the sentences are listed there, to see which ones have no check. */
    private static void write(Path list, String line) {
        try {
            Files.writeString(list, line, java.nio.file.StandardOpenOption.CREATE,
                    java.nio.file.StandardOpenOption.APPEND);
        } catch (IOException e) {
            throw new UncheckedIOException(e);
        }
    }
}
