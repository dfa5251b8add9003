import java.io.IOException;
import java.io.UncheckedIOException;
import java.nio.file.Files;
import java.nio.file.Path;

/**
 * The project's document, so that no test rests on words that it has not. Where the document can't be read the words
 * go unchecked: it is the answers that count.
 */
final class Doc {
    private static final Path FILE = Path.of("../shared/DOC.md");
    private static final String TEXT = read().replaceAll("\\s+", " ");

    private Doc() {
    }

    private static String read() {
        try {
            return Files.isReadable(FILE) ? Files.readString(FILE) : "";
        } catch (IOException e) {
            throw new UncheckedIOException(e);
        }
    }

    /** Whether a promise (0: what stands ahead of them all) has some words. */
    static boolean has(int promise, String words) {
        if (TEXT.isEmpty()) {
            return true;
        }
        int from = promise == 0 ? 0 : TEXT.indexOf("## Promise " + promise + ":");
        int to = TEXT.indexOf(promise == 33 ? "## Not promised" : "## Promise " + (promise + 1) + ":");
        return from >= 0 && to > from && TEXT.substring(from, to).contains(words);
    }
}
