import java.io.IOException;
import java.lang.reflect.Field;
import java.lang.reflect.Method;
import java.lang.reflect.Modifier;
import java.nio.file.Files;
import java.nio.file.Path;
import java.util.ArrayList;
import java.util.List;
import java.util.regex.Matcher;
import java.util.regex.Pattern;

/** README.md names every call and constant, and the calls of its examples answer what it says. Run from the project's root. */
public final class ReadmeTests {
    private static final String MAKING = "PowerDiagram d = new PowerDiagram();";
    private static final Pattern CALL = Pattern.compile("d\\.(\\w+)\\(([^)]*)\\);\\s*// (-?\\d+|[A-Z_]+)\\b.*");
    private static final int FACE_METHODS = 31;

    private final Check check = new Check();
    private PowerDiagram diagram = null;
    private int examples = 0;

    private ReadmeTests() {
    }

    public static void main(String[] args) throws IOException, ReflectiveOperationException {
        String page = Files.readString(Path.of("README.md"));
        ReadmeTests tests = new ReadmeTests();
        tests.nameEveryCall(page);
        tests.nameEveryConstant(page);
        tests.runExamples(page);
        tests.check.finish();
    }

    private void nameEveryCall(String page) {
        check.topic("calls");
        int methods = 0;
        for (Method m : PowerDiagram.class.getDeclaredMethods()) {
            if (Modifier.isPublic(m.getModifiers())) {
                methods++;
                int arguments = m.getParameterCount();
                String signs = arguments == 0 ? "" : "\\w+(, \\w+){" + (arguments - 1) + "}";
                Pattern row = Pattern.compile("(?m)^\\| `" + m.getName() + "\\(" + signs + "\\)` \\| .+\\|$");
                check.dueTrue(m.getName() + " with its arguments", row.matcher(page).find());
            }
        }
        check.due("methods", methods, FACE_METHODS);
    }

    private void nameEveryConstant(String page) throws ReflectiveOperationException {
        check.topic("constants");
        for (Field f : PowerDiagram.class.getDeclaredFields()) {
            if (Modifier.isPublic(f.getModifiers())) {
                check.dueTrue(f.getName(), page.contains("| `" + f.getName() + "` | " + f.getInt(null) + " |"));
            }
        }
    }

    private void runExamples(String page) throws ReflectiveOperationException {
        boolean inExample = false;
        for (String line : page.split("\n")) {
            check.topic(line);
            if (line.startsWith("```")) {
                inExample = line.equals("```java");
            } else if (inExample) {
                runLine(line);
            }
        }
        check.topic("examples");
        check.dueTrue("there are some", examples > 0);
    }

    private void runLine(String line) throws ReflectiveOperationException {
        if (line.equals(MAKING)) {
            diagram = new PowerDiagram();
            return;
        }
        Matcher parts = CALL.matcher(line);
        boolean isCall = parts.matches();
        check.dueTrue("a call and its answer", isCall && diagram != null);
        if (isCall && diagram != null) {
            examples++;
            check.due("the call", answer(parts.group(1), parts.group(2)), value(parts.group(3)));
        }
    }

    private int answer(String name, String signs) throws ReflectiveOperationException {
        for (Method m : PowerDiagram.class.getMethods()) {
            if (m.getName().equals(name)) {
                return (Integer) m.invoke(diagram, arguments(m.getParameterTypes(), signs));
            }
        }
        throw new NoSuchMethodException(name);
    }

    private static Object[] arguments(Class<?>[] types, String signs) {
        List<Object> found = new ArrayList<>();
        if (!signs.isEmpty()) {
            for (String sign : signs.split(", ")) {
                long value = sign.startsWith("'") ? sign.charAt(1) : Long.parseLong(sign.replace("L", ""));
                boolean isLong = types[found.size()] == long.class;
                found.add(isLong ? (Object) value : (Object) (int) value);
            }
        }
        return found.toArray();
    }

    private static int value(String sign) throws ReflectiveOperationException {
        boolean isNumber = Character.isDigit(sign.charAt(sign.length() - 1));
        return isNumber ? Integer.parseInt(sign) : PowerDiagram.class.getField(sign).getInt(null);
    }
}
