import java.io.IOException;
import java.io.UncheckedIOException;
import java.nio.file.Files;
import java.nio.file.Path;
import java.util.ArrayList;
import java.util.List;

/**
 * The project's document, so that no test rests on words that it has not. Where the document can't be read the words
 * go unchecked: it is the answers that count.
 */
final class Doc {
    private static final Path FILE = Path.of("../shared/DOC.md");
    private static final String TEXT = read().replaceAll("\\s+", " ");
    /** The document, with a blank for each sign that was quoted. */
    private static final StringBuilder LEFT = new StringBuilder(TEXT);
    /** What asks for no answer: headings, faces, fences, and which heading stands ahead of which calls. */
    private static final String NO_SENTENCE =
        "## Terms|## Promise \\d+: [^`]*`[^`]*`:|```(text)?|==== \\d|Ahead of the calls [^:]*: ---- \\d [a-z, ]*\\.";

    private Doc() {
    }

    private static String read() {
        try {
            return Files.isReadable(FILE) ? Files.readString(FILE) : "";
        } catch (IOException e) {
            throw new UncheckedIOException(e);
        }
    }

    /** Whether a promise (0: what stands ahead of them all) has some words, which are quoted then. */
    static boolean has(int promise, String words) {
        if (TEXT.isEmpty()) {
            return true;
        }
        int from = promise == 0 ? 0 : TEXT.indexOf("## Promise " + promise + ":");
        int to = TEXT.indexOf(promise == 33 ? "## Not promised" : "## Promise " + (promise + 1) + ":");
        int at = from < 0 ? -1 : TEXT.indexOf(words, from);
        if (at < 0 || at + words.length() > to) {
            return false;
        }
        LEFT.replace(at, at + words.length(), " ".repeat(words.length()));
        return true;
    }

    /** What no test quoted so far of the terms and the promises. */
    static List<String> unquoted() {
        int from = Math.max(0, TEXT.indexOf("## Terms"));
        int to = Math.max(from, TEXT.indexOf("## Not promised"));
        List<String> all = new ArrayList<>();
        for (String piece : LEFT.substring(from, to).replaceAll(NO_SENTENCE, "  ").split(" {2,}")) {
            if (piece.matches(".*[a-zA-Z0-9].*")) {
                all.add(piece.trim());
            }
        }
        return all;
    }
}
