import java.lang.reflect.Constructor;
import java.lang.reflect.Field;
import java.lang.reflect.Method;
import java.lang.reflect.Modifier;
import java.util.Set;
import java.util.TreeSet;

/** The class has the members that the document's part 'The public face' lists, and no others that can be seen. */
public final class FaceTest {
    private static final String[] METHODS = {
        "int appendText(int) throws IllegalArgumentException IllegalStateException",
        "int clearText()",
        "int count(int) throws IllegalArgumentException",
        "int errorPosition()",
        "int flush()",
        "int instruction(int int) throws IndexOutOfBoundsException IllegalArgumentException",
        "int jumpTo(int) throws IndexOutOfBoundsException",
        "int line(int int int) throws IndexOutOfBoundsException IllegalArgumentException",
        "int lines()",
        "int linesWith(int) throws IndexOutOfBoundsException",
        "int nextFetch(int) throws IllegalArgumentException",
        "int pending(int) throws IndexOutOfBoundsException",
        "int programCounter()",
        "int run(int) throws IllegalArgumentException",
        "int runText() throws IllegalStateException",
        "int savedStates()",
        "int setPattern(int int int) throws IndexOutOfBoundsException IllegalArgumentException",
        "int textLength()",
        "int undo() throws IllegalStateException",
        "int willExecute(int) throws IndexOutOfBoundsException",
        "int wouldFetch(int) throws IndexOutOfBoundsException",
        "int write(int int int) throws IndexOutOfBoundsException IllegalArgumentException",
        "double rate()"};

    private static String names(Class<?>[] types) {
        StringBuilder names = new StringBuilder();
        for (Class<?> type : types) {
            names.append(names.length() > 0 ? " " : "").append(type.getSimpleName());
        }
        return names.toString();
    }

    private static String told(Method method) {
        String thrown = names(method.getExceptionTypes());
        return (method.getModifiers() == Modifier.PUBLIC ? "" : "not plainly public: ")
            + method.getReturnType().getSimpleName() + " " + method.getName() + "("
            + names(method.getParameterTypes()) + ")" + (thrown.isEmpty() ? "" : " throws " + thrown);
    }

    private static Set<String> seenMethods() {
        Set<String> seen = new TreeSet<>();
        for (Method method : TraceCache.class.getDeclaredMethods()) {
            if (!Modifier.isPrivate(method.getModifiers()) && !method.isSynthetic()) {
                seen.add(told(method));
            }
        }
        return seen;
    }

    private static Set<String> seenFields() {
        Set<String> seen = new TreeSet<>();
        for (Field field : TraceCache.class.getDeclaredFields()) {
            if (!Modifier.isPrivate(field.getModifiers()) && !field.isSynthetic()) {
                seen.add(Modifier.toString(field.getModifiers()) + " " + field.getType() + " " + field.getName());
            }
        }
        return seen;
    }

    /** Every method, in the classes inside too, that is not of the face but bears one of its names. */
    private static Set<String> borrowedNames() {
        Set<String> face = new TreeSet<>();
        for (Method method : TraceCache.class.getMethods()) {
            if (method.getDeclaringClass() == TraceCache.class) {
                face.add(method.getName());
            }
        }
        Set<String> borrowed = new TreeSet<>();
        for (Method method : TraceCache.class.getDeclaredMethods()) {
            if (Modifier.isPrivate(method.getModifiers()) && face.contains(method.getName())) {
                borrowed.add(method.getName());
            }
        }
        for (Class<?> inside : TraceCache.class.getDeclaredClasses()) {
            for (Method method : inside.getDeclaredMethods()) {
                if (face.contains(method.getName())) {
                    borrowed.add(inside.getSimpleName() + "." + method.getName());
                }
            }
        }
        return borrowed;
    }

    private static String seenConstructors() {
        StringBuilder seen = new StringBuilder();
        for (Constructor<?> constructor : TraceCache.class.getDeclaredConstructors()) {
            seen.append(constructor);
        }
        return seen.toString();
    }

    public static void main(String[] args) {
        Check check = new Check();
        check.due("the methods", new TreeSet<>(Set.of(METHODS)), FaceTest::seenMethods);
        check.due("the constants", new TreeSet<>(Set.of("public static final int NONE",
            "public static final int PLAIN", "public static final int JUMP", "public static final int BRANCH")),
            FaceTest::seenFields);
        check.due("the constructors", "public TraceCache()", FaceTest::seenConstructors);
        check.due("the class", "public final", () -> Modifier.toString(TraceCache.class.getModifiers()));
        check.due("borrowed names", "[]", FaceTest::borrowedNames);
        check.due("NONE", -1, () -> TraceCache.NONE);
        check.due("PLAIN", 0, () -> TraceCache.PLAIN);
        check.due("JUMP", 1, () -> TraceCache.JUMP);
        check.due("BRANCH", 2, () -> TraceCache.BRANCH);
        check.end("FaceTest");
    }
}
