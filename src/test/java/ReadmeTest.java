import java.io.IOException;
import java.nio.file.Files;
import java.nio.file.Path;
import java.util.regex.Matcher;
import java.util.regex.Pattern;

/** The README's example must answer what it says behind each call. */
public final class ReadmeTest {
    private static final Check CHECK = new Check("ReadmeTest");
    private static final Pattern CALL = Pattern.compile("room\\.(\\w+)\\((.*?)\\);(?: *// (-?\\w+):.*)?");

    public static void main(String[] args) throws IOException {
        Told told = new Told();
        int rows = 0;
        for (String line : Files.readAllLines(Path.of("README.md"))) {
            Matcher call = CALL.matcher(line);
            if (call.matches()) {
                rows++;
                String words = (call.group(1) + " " + call.group(2).replace(", ", " ")).strip();
                String want = call.group(3) == null ? "kept" : call.group(3);
                CHECK.holds(line, told.answer(words).equals(want));
            }
        }
        CHECK.holds("calls in README.md: " + rows, rows > 20);
        CHECK.end();
    }
}
