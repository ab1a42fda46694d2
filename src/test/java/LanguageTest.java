import java.io.IOException;
import java.lang.reflect.Constructor;
import java.lang.reflect.Executable;
import java.lang.reflect.Field;
import java.lang.reflect.Method;
import java.lang.reflect.Modifier;
import java.nio.file.Files;
import java.nio.file.Path;
import java.util.ArrayList;
import java.util.Arrays;
import java.util.HashSet;
import java.util.List;
import java.util.Set;
import java.util.TreeSet;
import java.util.regex.Pattern;

/** The face as the document has it, and what LANGUAGE.md rules out that can be seen in the text. */
public final class LanguageTest {
    private static final Path SOURCE = Path.of("src/main/java/SweptGrants.java");
    private static final String[] FACE = {
        "boolean feed(int, int, int, int, int)", "int boot(int)", "int place()", "int run(int)",
        "boolean input(int)", "long fetch()", "long register(int, int, int)",
        "long memory(int, int)", "int tag(int)", "int thread(int, int)", "int compartment(int, int)",
        "int heap(int)", "int count(int)", "int broken(int)"};

    public static void main(String[] args) throws IOException {
        face();
        classes();
        text();
        Check.end();
    }

    private static String spelled(Method method) {
        List<String> kinds = new ArrayList<>();
        for (Class<?> kind : method.getParameterTypes()) {
            kinds.add(kind.getSimpleName());
        }
        return method.getReturnType().getSimpleName() + " " + method.getName()
            + "(" + String.join(", ", kinds) + ")";
    }

    private static void face() {
        Set<String> open = new TreeSet<>();
        Set<String> names = new HashSet<>();
        for (Method method : SweptGrants.class.getDeclaredMethods()) {
            if (!Modifier.isPrivate(method.getModifiers())) {
                open.add(spelled(method));
                names.add(method.getName());
            }
        }
        Check.due("face " + open, open.equals(new TreeSet<>(Arrays.asList(FACE))), true);
        Check.due("final", Modifier.isFinal(SweptGrants.class.getModifiers()), true);
        Constructor<?>[] made = SweptGrants.class.getDeclaredConstructors();
        Check.due("constructors", made.length, 1);
        Check.due("of one int", Arrays.equals(made[0].getParameterTypes(), new Class<?>[] {int.class}), true);
        for (Class<?> one : everyClass()) {
            for (Method method : one.getDeclaredMethods()) {
                boolean twice = names.contains(method.getName())
                    && (one != SweptGrants.class || Modifier.isPrivate(method.getModifiers()));
                Check.due("a name twice: " + method, twice, false);
            }
        }
    }

    private static List<Class<?>> everyClass() {
        List<Class<?>> all = new ArrayList<>();
        all.add(SweptGrants.class);
        all.addAll(Arrays.asList(SweptGrants.class.getDeclaredClasses()));
        return all;
    }

    private static void classes() {
        Check.due("classes", everyClass().size() <= 12, true);
        for (Class<?> one : everyClass()) {
            int fields = 0;
            for (Field field : one.getDeclaredFields()) {
                if (Modifier.isStatic(field.getModifiers())) {
                    Check.due("constant " + field, Modifier.isFinal(field.getModifiers())
                        && (field.getType() == int.class || field.getType() == long.class), true);
                } else {
                    fields++;
                }
            }
            Check.due("fields of " + one, fields <= 20, true);
            Check.due("static " + one,
                one == SweptGrants.class || Modifier.isStatic(one.getModifiers()), true);
            List<Executable> all = new ArrayList<>(Arrays.asList(one.getDeclaredMethods()));
            all.addAll(Arrays.asList(one.getDeclaredConstructors()));
            for (Executable each : all) {
                Check.due("parameters of " + each, each.getParameterCount() <= 7, true);
            }
        }
    }

    private static void text() throws IOException {
        String source = Files.readString(SOURCE);
        String[] ruledOut = {
            "\\bthrow\\b", "\\bthrows\\b", "\\btry\\b", "\\bcatch\\b", "\\bassert\\b",
            "\\bsynchronized\\b", "->", "::", "static \\{", "\\bpackage\\b", "\\bSystem\\.(?!arraycopy)",
            "Exact\\(", "\\bThread\\b", "\\bRandom\\b", "import (?!java\\.util\\.Arrays;)"};
        for (String one : ruledOut) {
            Check.due("in the text: " + one, Pattern.compile(one).matcher(source).find(), false);
        }
        methodsAreShort(source.split("\n"));
    }

    private static void methodsAreShort(String[] lines) {
        int begin = 0;
        for (int i = 0; i < lines.length; i++) {
            if (lines[i].matches(" {4}( {4})?\\w[^=]*\\) \\{")) {
                begin = i;
            }
            if (lines[i].matches(" {4}( {4})?\\}")) {
                Check.due("lines up to " + i, i - begin <= 60, true);
            }
        }
    }
}
