import java.io.IOException;
import java.nio.file.Files;
import java.nio.file.Path;
import java.util.regex.Matcher;
import java.util.regex.Pattern;

/** The code of README.md, call by call, each held against the answer that stands behind it. */
public final class ReadmeTest {
    private static final Due due = new Due("ReadmeTest");
    private static final Pattern TEXT = Pattern.compile("String text = \"([^\"]*)\";.*");
    private static final Pattern CALL = Pattern.compile("\\s*x\\.(\\w+\\(.*\\)); *// (-?\\d+|LOST).*");
    private static final String LOOP = "for (int i = 0; i < text.length(); i++) {";

    private static final PondRings x = new PondRings();
    private static String text = "";
    private static boolean inLoop = false;

    public static void main(String[] args) throws IOException {
        boolean code = false;
        int calls = 0;
        for (String line : Files.readAllLines(Path.of("README.md"))) {
            if (line.startsWith("```")) {
                code = line.equals("```java");
            } else if (code) {
                calls += row(line);
            }
        }
        due.is("there are calls: " + calls, calls > 30 ? 1 : 0, 1);
        due.end();
    }

    /** How many calls a row of code has. */
    private static int row(String line) {
        Matcher told = TEXT.matcher(line);
        Matcher call = CALL.matcher(line);
        if (told.matches()) {
            text = told.group(1);
        } else if (line.equals(LOOP) || line.equals("}")) {
            inLoop = line.equals(LOOP);
        } else if (call.matches()) {
            long want = call.group(2).equals("LOST") ? PondRings.LOST : Long.parseLong(call.group(2));
            String asked = call.group(1).replace("text.length()", "" + text.length());
            for (int i = 0; i < (inLoop ? text.length() : 1); i++) {
                due.is(x, asked.replace("text.charAt(i)", "" + (int) text.charAt(i)).replace(" i,", " " + i + ","), want);
            }
            return 1;
        } else {
            boolean known = line.isBlank() || line.equals("PondRings x = new PondRings();");
            due.is("this test knows the row: " + line, known ? 1 : 0, 1);
        }
        return 0;
    }
}
