import java.io.IOException;
import java.lang.reflect.Method;
import java.nio.file.Files;
import java.nio.file.Path;
import java.util.regex.Matcher;
import java.util.regex.Pattern;

/** Every test that src/test/EDGES.md names is there. */
public final class EdgesListTest {
    private static final Pattern NAMED = Pattern.compile("`(\\w+Test)\\.(\\w+)`");

    public static void main(String[] args) throws IOException {
        for (String line : Files.readAllLines(Path.of("src/test/EDGES.md"))) {
            boolean told = !line.startsWith("| ") || line.startsWith("| sentence")
                || line.startsWith("| promise") || line.startsWith("| ---");
            Matcher named = NAMED.matcher(line);
            while (named.find()) {
                told = true;
                Check.due(named.group(), isThere(named.group(1), named.group(2)), true);
            }
            Check.due("a test for: " + line, told, true);
        }
        Check.end();
    }

    private static boolean isThere(String test, String name) {
        try {
            for (Method method : Class.forName(test).getDeclaredMethods()) {
                if (method.getName().equals(name)) {
                    return true;
                }
            }
        } catch (ClassNotFoundException none) {
            System.out.println("no class " + test);
        }
        return false;
    }
}
