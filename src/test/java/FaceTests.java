import java.lang.reflect.Constructor;
import java.lang.reflect.Field;
import java.lang.reflect.Method;
import java.lang.reflect.Modifier;
import java.util.Set;
import java.util.TreeSet;

/** The public face is that of the document, and nothing else can be seen from outside. */
public final class FaceTests {
    private static final String[] METHODS = {
        "int append(int)", "int clearText()", "int errorPosition()", "int load()", "int siteCount()", "int site(int,int)",
        "int powerDistance(int,int,int)", "int owner(int,int)", "int size(int)", "int add(int,int,int)", "int remove(int)",
        "int move(int,int,int)", "int setWeight(int,int)", "int undo()", "int cornerCount(int)",
        "int cornerNumerator(int,int,int)", "int cornerDenominator(int,int,int)", "int hiddenSites()", "int neighbours(int)",
        "int isTriangle(int,int,int)", "int triangleCount()", "int conflicts(int,int,int)",
        "int alongSegment(int,int,int,int)", "int weightForSize(int,int)", "int observe(int,int,int)",
        "int clearObservations()", "int possibleWeights(int,int)", "int runScript(int,long)", "int sample(long,int,int)",
        "int save(int)", "int restore(int)",
    };
    private static final String[] CONSTANTS = {"NO_SUCH_INDEX", "BAD_VALUE", "NOT_POSSIBLE", "FULL", "NONE"};

    private FaceTests() {
    }

    public static void main(String[] args) {
        Check check = new Check();
        check.topic("the face");
        Class<?> face = PowerDiagram.class;
        check.dueTrue("public final class", face.getModifiers() == (Modifier.PUBLIC | Modifier.FINAL));
        check.dueTrue("methods " + seenMethods(face), seenMethods(face).equals(Set.of(METHODS)));
        check.dueTrue("constants " + seenFields(face), seenFields(face).equals(Set.of(CONSTANTS)));
        int constructors = 0;
        for (Constructor<?> c : face.getDeclaredConstructors()) {
            constructors++;
            check.dueTrue("constructor", Modifier.isPublic(c.getModifiers()) && c.getParameterCount() == 0);
        }
        check.due("constructors", constructors, 1);
        for (Class<?> inside : face.getDeclaredClasses()) {
            check.dueTrue(inside + " is static", Modifier.isStatic(inside.getModifiers()));
            check.dueTrue(inside + " is not public", !Modifier.isPublic(inside.getModifiers()));
        }
        check.due("NO_SUCH_INDEX", PowerDiagram.NO_SUCH_INDEX, -1);
        check.due("BAD_VALUE", PowerDiagram.BAD_VALUE, -2);
        check.due("NOT_POSSIBLE", PowerDiagram.NOT_POSSIBLE, -3);
        check.due("FULL", PowerDiagram.FULL, -4);
        check.due("NONE", PowerDiagram.NONE, -9);
        check.finish();
    }

    private static Set<String> seenMethods(Class<?> face) {
        Set<String> found = new TreeSet<>();
        for (Method m : face.getDeclaredMethods()) {
            if (!Modifier.isPrivate(m.getModifiers())) {
                StringBuilder types = new StringBuilder();
                for (Class<?> type : m.getParameterTypes()) {
                    types.append(types.length() == 0 ? "" : ",").append(type.getSimpleName());
                }
                found.add(m.getReturnType() + " " + m.getName() + "(" + types + ")");
            }
        }
        return found;
    }

    private static Set<String> seenFields(Class<?> face) {
        Set<String> found = new TreeSet<>();
        for (Field f : face.getDeclaredFields()) {
            if (!Modifier.isPrivate(f.getModifiers())) {
                found.add(f.getName());
            }
        }
        return found;
    }
}
