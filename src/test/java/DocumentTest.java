import java.io.IOException;
import java.nio.file.Files;
import java.nio.file.Path;

/** Every sentence of the document, with the calls that src/test/runs/document.txt tells for it. */
public final class DocumentTest {
    private static final Due due = new Due("DocumentTest");
    private static final Path RUNS = Path.of("src/test/runs/document.txt");
    private static PondRings x = new PondRings();

    public static void main(String[] args) throws IOException {
        for (String line : Files.readAllLines(RUNS)) {
            if (line.startsWith("> ")) {
                says(line.substring(2));
            } else if (line.startsWith("@")) {
                begin(line);
            } else if (line.matches("[a-zA-Z]+\\(.*")) {
                calls(line);
            }
        }
        due.is("sentences that are not quoted in " + RUNS + ": " + Doc.unquoted(), Doc.unquoted().size(), 0);
        due.end();
    }

    private static void says(String line) {
        int space = line.indexOf(' ');
        due.says(Integer.parseInt(line.substring(0, space)), line.substring(space + 1));
    }

    private static void begin(String line) {
        if (!line.startsWith("@text")) {
            x = new PondRings();
        }
        if (!line.equals("@new")) {
            String[] words = line.split(" ");
            due.is(line, Ponds.read(x, words[1]), Long.parseLong(words[3]));
        }
    }

    private static void calls(String line) {
        for (String call : line.split("; ")) {
            String[] sides = call.split(" = ");
            due.is(x, sides[0], sides[1].equals("LOST") ? PondRings.LOST : Long.parseLong(sides[1]));
        }
    }
}
