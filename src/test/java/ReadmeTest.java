import java.io.IOException;
import java.lang.reflect.InvocationTargetException;
import java.lang.reflect.Method;
import java.lang.reflect.Modifier;
import java.nio.file.Files;
import java.nio.file.Path;
import java.util.ArrayList;
import java.util.HashSet;
import java.util.List;
import java.util.Set;
import java.util.regex.Matcher;
import java.util.regex.Pattern;

/**
 * Makes the calls that README.md shows, in its order on one object, so that what it says of using the
 * class stays true: each line has the call and, behind //, the number it answers or what it throws.
 */
final class ReadmeTest {
    private static final String MAKES = "CensusOffice office = new CensusOffice();";
    private static final Pattern CALL =
            Pattern.compile("office\\.(\\w+)\\((.*)\\); +// (throws \\w+|-?\\d+)(:.*)?");

    private static final Checks checks = new Checks("ReadmeTest");
    private static final Set<String> called = new HashSet<>();

    private ReadmeTest() {
    }

    public static void main(String[] args) throws IOException, ReflectiveOperationException {
        CensusOffice office = new CensusOffice();
        List<String> lines = shownLines();
        checks.due("lines of Java that make an object", 1, () -> lines.indexOf(MAKES) == 0 ? 1 : 0);
        for (String line : lines) {
            if (!line.isEmpty() && !line.equals(MAKES)) {
                compare(office, line);
            }
        }
        for (Method method : CensusOffice.class.getDeclaredMethods()) {
            if (Modifier.isPublic(method.getModifiers())) {
                String name = method.getName();
                checks.due("README.md shows " + name, 1, () -> called.contains(name) ? 1 : 0);
            }
        }
        checks.end();
    }

    private static List<String> shownLines() throws IOException {
        List<String> shown = new ArrayList<>();
        boolean inside = false;
        for (String line : Files.readAllLines(Path.of("README.md"))) {
            if (line.startsWith("```")) {
                inside = line.equals("```java");
            } else if (inside) {
                shown.add(line.trim());
            }
        }
        return shown;
    }

    private static void compare(CensusOffice office, String line) throws ReflectiveOperationException {
        Matcher shown = CALL.matcher(line);
        if (!shown.matches()) {
            checks.report(line, "is no call with its answer");
            return;
        }
        called.add(shown.group(1));
        String answered = answerOf(office, shown.group(1), shown.group(2));
        checks.due(line + " (here: " + answered + ")", 1, () -> answered.equals(shown.group(3)) ? 1 : 0);
    }

    private static String answerOf(CensusOffice office, String name, String written)
            throws ReflectiveOperationException {
        String[] parts = written.isEmpty() ? new String[0] : written.split(", *");
        Method method = methodOf(name, parts.length);
        if (method == null) {
            return "no such call";
        }
        Object[] given = new Object[parts.length];
        for (int k = 0; k < parts.length; k++) {
            given[k] = argument(method.getParameterTypes()[k], parts[k]);
        }
        try {
            return String.valueOf(method.invoke(office, given));
        } catch (InvocationTargetException thrown) {
            return "throws " + thrown.getCause().getClass().getSimpleName();
        }
    }

    private static Object argument(Class<?> type, String written) throws ReflectiveOperationException {
        if (type == boolean.class) {
            return Boolean.valueOf(written);
        }
        if (written.startsWith("CensusOffice.")) {
            return CensusOffice.class.getField(written.substring("CensusOffice.".length())).get(null);
        }
        return Integer.decode(written);
    }

    private static Method methodOf(String name, int parameters) {
        for (Method method : CensusOffice.class.getDeclaredMethods()) {
            if (Modifier.isPublic(method.getModifiers()) && method.getName().equals(name)
                    && method.getParameterCount() == parameters) {
                return method;
            }
        }
        return null;
    }
}
