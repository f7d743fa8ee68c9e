import java.io.IOException;
import java.lang.reflect.Field;
import java.lang.reflect.Method;
import java.lang.reflect.Modifier;
import java.nio.file.Files;
import java.nio.file.Path;
import java.util.regex.Pattern;

/** The rules of LANGUAGE.md that can be read off the source or the compiled classes. Run from the project's root. */
public final class LanguageTests {
    private static final String[] FORBIDDEN = {
        "\\b(throw|throws|try|catch|finally|synchronized|assert|package|native|volatile)\\b", "->", "::",
        "static\\s*\\{", "\\b(Object|Random|Thread)\\b", "System\\.(?!arraycopy)", "Exact\\(",
    };

    private LanguageTests() {
    }

    public static void main(String[] args) throws IOException {
        Check check = new Check();
        String source = Files.readString(Path.of("src/main/java/PowerDiagram.java"));
        String code = source.replaceAll("(?s)/\\*.*?\\*/", " ").replaceAll("//[^\n]*", " ");
        check.topic("words");
        for (String words : FORBIDDEN) {
            check.dueTrue("nothing like " + words, !Pattern.compile(words).matcher(code).find());
        }
        check.topic("classes");
        check.dueTrue("at most 12", PowerDiagram.class.getDeclaredClasses().length <= 12);
        lookAt(check, PowerDiagram.class);
        for (Class<?> inside : PowerDiagram.class.getDeclaredClasses()) {
            lookAt(check, inside);
            for (Method m : inside.getDeclaredMethods()) {
                check.dueTrue(m + " has no name of the face", !namesOfFaceHave(m.getName()));
            }
        }
        check.finish();
    }

    private static void lookAt(Check check, Class<?> type) {
        int fields = 0;
        for (Field f : type.getDeclaredFields()) {
            boolean isStatic = Modifier.isStatic(f.getModifiers());
            check.dueTrue(f + " is final if static", !isStatic || Modifier.isFinal(f.getModifiers()));
            fields += isStatic ? 0 : 1;
        }
        check.dueTrue("at most 20 fields in " + type, fields <= 20);
        for (Method m : type.getDeclaredMethods()) {
            check.dueTrue(m + " has at most 7 parameters", m.getParameterCount() <= 7);
            boolean isPrivate = Modifier.isPrivate(m.getModifiers());
            check.dueTrue(m + " has a name of its own", !isPrivate || !namesOfFaceHave(m.getName()));
        }
    }

    private static boolean namesOfFaceHave(String name) {
        for (Method m : PowerDiagram.class.getMethods()) {
            if (m.getDeclaringClass() == PowerDiagram.class && m.getName().equals(name)) {
                return true;
            }
        }
        return false;
    }
}
