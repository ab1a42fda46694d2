import java.io.IOException;
import java.lang.reflect.InvocationTargetException;
import java.lang.reflect.Method;
import java.lang.reflect.Modifier;
import java.nio.file.Files;
import java.nio.file.Path;
import java.util.ArrayList;
import java.util.List;
import java.util.regex.Matcher;
import java.util.regex.Pattern;

/** What README.md shows: the calls of its example answer as told there, and its image is that one. */
public final class ReadmeTest {
    private static final Pattern CALL =
        Pattern.compile("machine\\.(\\w+)\\(([^)]*)\\);\\s+// (true|-?0x[0-9A-Fa-f]+|-?\\d+)(,.*)?");
    private static final Pattern MADE = Pattern.compile("new SweptGrants\\((\\d+)\\);");
    private static final Pattern BYTES = Pattern.compile("`([0-9A-F]{2}(?: [0-9A-F]{2})*)`");

    public static void main(String[] args) throws IOException, ReflectiveOperationException {
        List<String> lines = Files.readAllLines(Path.of("README.md"));
        example(lines);
        image(lines);
        everyCall(lines);
        Check.end();
    }

    private static void example(List<String> lines) throws ReflectiveOperationException {
        SweptGrants machine = null;
        int calls = 0;
        for (String line : lines) {
            Matcher made = MADE.matcher(line);
            if (made.find()) {
                machine = new SweptGrants(Integer.parseInt(made.group(1)));
            }
            Matcher call = CALL.matcher(line);
            if (machine != null && call.matches()) {
                Check.due(line, answer(machine, call.group(1), call.group(2)), number(call.group(3)));
                calls++;
            } else {
                Check.due("read: " + line, line.startsWith("machine."), false);
            }
        }
        Check.due("calls of the example", calls, 13);
    }

    private static long answer(SweptGrants machine, String name, String arguments)
            throws IllegalAccessException, InvocationTargetException {
        List<Object> given = new ArrayList<>();
        for (String one : arguments.isEmpty() ? new String[0] : arguments.split(", ")) {
            given.add((int) number(one));
        }
        Object got = method(name).invoke(machine, given.toArray());
        return got instanceof Boolean ? ((Boolean) got ? 1 : 0) : ((Number) got).longValue();
    }

    private static Method method(String name) {
        for (Method method : SweptGrants.class.getMethods()) {
            if (method.getName().equals(name)) {
                return method;
            }
        }
        throw new IllegalStateException("no call " + name);
    }

    private static long number(String text) {
        return text.equals("true") ? 1 : Long.decode(text);
    }

    /** The table's bytes are those that the example feeds. */
    private static void image(List<String> lines) {
        StringBuilder told = new StringBuilder();
        StringBuilder fed = new StringBuilder();
        for (String line : lines) {
            Matcher bytes = BYTES.matcher(line.startsWith("| `") ? line.split("\\|")[1] : "");
            while (bytes.find()) {
                told.append(bytes.group(1).replace(" ", ""));
            }
            if (line.startsWith("machine.feed(")) {
                fed.append(line.replaceAll("0x|[^0-9A-Fx]|//.*", ""));
            }
        }
        Check.due("bytes told", told.length() / 2, 38);
        Check.due(told + " is the beginning of " + fed, fed.indexOf(told.toString()), 0);
    }

    private static void everyCall(List<String> lines) {
        for (Method method : SweptGrants.class.getDeclaredMethods()) {
            boolean told = false;
            for (String line : lines) {
                told |= line.startsWith("| `") && line.contains("`" + method.getName() + "(");
            }
            if (Modifier.isPublic(method.getModifiers())) {
                Check.due("README tells of " + method.getName(), told, true);
            }
        }
    }
}
