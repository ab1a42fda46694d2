import java.io.IOException;
import java.nio.file.Files;
import java.nio.file.Path;
import java.util.regex.Matcher;
import java.util.regex.Pattern;

/** Every test that src/test/EDGES.md names is there, and is run. */
public final class EdgesListTest {
    private static final Pattern NAMED = Pattern.compile("`(\\w+Test)\\.(\\w+)`");

    public static void main(String[] args) throws IOException {
        for (String line : Files.readAllLines(Path.of("src/test/EDGES.md"))) {
            boolean told = !line.startsWith("| ") || line.startsWith("| sentence")
                || line.startsWith("| promise") || line.startsWith("| ---");
            Matcher named = NAMED.matcher(line);
            while (named.find()) {
                told = true;
                Check.due(named.group(), isThere(named.group(1), named.group(2)), true);
            }
            Check.due("a test for: " + line, told, true);
        }
        Check.end();
    }

    private static boolean isThere(String test, String name) throws IOException {
        Path source = Path.of("src/test/java", test + ".java");
        if (!Files.exists(source)) {
            return false;
        }
        Matcher seen = Pattern.compile("(static \\w+ )?\\b" + name + "\\(").matcher(Files.readString(source));
        boolean made = false;
        boolean called = false;
        while (seen.find()) {
            made |= seen.group(1) != null;
            called |= seen.group(1) == null;
        }
        return made && called;
    }
}
