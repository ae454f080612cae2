import java.lang.reflect.Constructor;
import java.lang.reflect.Field;
import java.lang.reflect.Method;
import java.lang.reflect.Modifier;
import java.util.Arrays;
import java.util.Map;
import java.util.Set;
import java.util.TreeMap;
import java.util.TreeSet;
import java.util.stream.Collectors;

/** The public face of the document, and what LANGUAGE.md says of members. */
public final class FaceTest {
    private static final String ARGUMENT = " throws IllegalArgumentException";
    private static final String ARGUMENT_STATE = " throws IllegalArgumentException, IllegalStateException";
    private static final String INDEX = " throws IndexOutOfBoundsException";
    private static final String INDEX_ARGUMENT = " throws IndexOutOfBoundsException, IllegalArgumentException";
    private static final Set<String> METHODS = Set.of(
            "int setSpeed(int)" + ARGUMENT, "int addSegment(int, int, int)" + ARGUMENT_STATE,
            "int setDemand(int)" + ARGUMENT, "int plan(int, int)" + ARGUMENT_STATE,
            "boolean setFault(int, boolean)" + INDEX, "boolean setOn(boolean)", "int repair()",
            "int run(int)" + ARGUMENT, "int stop()", "int stopDistance(int, int, int, boolean)" + ARGUMENT,
            "int car(int)" + ARGUMENT, "int wheel(int, int)" + INDEX_ARGUMENT, "int friction(int)" + INDEX,
            "int frictionFor(int, int)" + ARGUMENT, "int segments()", "int segment(int, int)" + INDEX_ARGUMENT,
            "int planned()", "int events()", "int event(int, int)" + INDEX_ARGUMENT,
            "int undo() throws IllegalStateException", "long digest()");
    private static final Map<String, Integer> CONSTANTS = Map.ofEntries(
            Map.entry("NONE", -1), Map.entry("DRY", 0), Map.entry("WET", 1), Map.entry("ICE", 2),
            Map.entry("NORMAL", 0), Map.entry("HOLD", 1), Map.entry("DUMP", 2), Map.entry("RECOVER", 3),
            Map.entry("BUILD", 4), Map.entry("PHASE", 0), Map.entry("EXCLUDED", 1), Map.entry("FULL", 2));

    private FaceTest() {
    }

    public static void main(String[] args) throws IllegalAccessException {
        int modifiers = AntilockBrakes.class.getModifiers();
        Check.same("public", 1, Check.number(Modifier.isPublic(modifiers)));
        Check.same("final", 1, Check.number(Modifier.isFinal(modifiers)));
        methods();
        constants();
        for (Constructor<?> made : AntilockBrakes.class.getDeclaredConstructors()) {
            Check.same("the constructor's parameters", 0, made.getParameterCount());
            Check.same("the constructor is public", 1, Check.number(Modifier.isPublic(made.getModifiers())));
        }
        for (Class<?> inside : AntilockBrakes.class.getDeclaredClasses()) {
            classInside(inside);
        }
        Check.end();
    }

    private static void methods() {
        Set<String> found = new TreeSet<>();
        for (Method method : AntilockBrakes.class.getDeclaredMethods()) {
            if (!Modifier.isPrivate(method.getModifiers())) {
                found.add(signature(method));
                Check.same("public: " + method, 1, Check.number(Modifier.isPublic(method.getModifiers())));
            } else {
                notOfTheFace(method);
            }
        }
        Check.same("the methods " + found, 1, Check.number(found.equals(METHODS)));
    }

    private static String signature(Method method) {
        String exceptions = names(method.getExceptionTypes());
        return method.getReturnType() + " " + method.getName() + "(" + names(method.getParameterTypes()) + ")"
                + (exceptions.isEmpty() ? "" : " throws " + exceptions);
    }

    private static String names(Class<?>[] kinds) {
        return Arrays.stream(kinds).map(Class::getSimpleName).collect(Collectors.joining(", "));
    }

    private static void notOfTheFace(Method method) {
        boolean taken = METHODS.stream().anyMatch(face -> face.contains(" " + method.getName() + "("));
        Check.same("a name of the face: " + method, 0, Check.number(taken));
        Check.same("seven parameters at most: " + method, 1, Check.number(method.getParameterCount() <= 7));
    }

    private static void constants() throws IllegalAccessException {
        Map<String, Integer> found = new TreeMap<>();
        for (Field field : AntilockBrakes.class.getDeclaredFields()) {
            if (!Modifier.isPrivate(field.getModifiers())) {
                found.put(field.getName(), field.getInt(null));
            }
            staticIsFinal(field);
        }
        Check.same("the constants " + found, 1, Check.number(found.equals(CONSTANTS)));
    }

    private static void staticIsFinal(Field field) {
        int modifiers = field.getModifiers();
        Check.same("a static field that can change: " + field, 0,
                Check.number(Modifier.isStatic(modifiers) && !Modifier.isFinal(modifiers)));
    }

    private static void classInside(Class<?> inside) {
        int modifiers = inside.getModifiers();
        Check.same("static: " + inside, 1, Check.number(Modifier.isStatic(modifiers)));
        Check.same("public: " + inside, 0, Check.number(Modifier.isPublic(modifiers)));
        int fields = 0;
        for (Field field : inside.getDeclaredFields()) {
            staticIsFinal(field);
            fields += Modifier.isStatic(field.getModifiers()) ? 0 : 1;
        }
        Check.same("twenty fields at most: " + inside, 1, Check.number(fields <= 20));
        for (Method method : inside.getDeclaredMethods()) {
            notOfTheFace(method);
        }
    }
}
