import java.lang.reflect.Constructor;
import java.lang.reflect.Field;
import java.lang.reflect.Method;
import java.lang.reflect.Modifier;
import java.util.Arrays;
import java.util.Set;
import java.util.TreeSet;

/** The public face, as the document writes it down, and no other member that can be seen. */
public final class FaceTest {
    private static final Set<String> METHODS = new TreeSet<>(Arrays.asList(
            "boolean type(int, char)", "int add()", "int records()", "int words(int, int)",
            "int length(int, int)", "int unit(int, int, int)", "boolean jaccard(int, int, int)",
            "boolean edit(int, int)", "boolean join(boolean)", "int accept()", "boolean discard()",
            "int similar(int, int)", "int start(int)", "int work(int)", "int crash(int)", "int pairs()",
            "int found(int, int)", "int cluster(int)", "boolean keep(int, int)", "int kept(int, int)"));
    private static final String[] CONSTANTS = {"BAD", "FULL", "UNDRIVEN", "NONE", "IDLE", "BUSY"};
    private static final int CONSTANT = Modifier.PUBLIC | Modifier.STATIC | Modifier.FINAL;

    public static void main(String[] args) throws ReflectiveOperationException {
        theClass();
        constants();
        constructor();
        methods();
        noStaticState();
        Check.end();
    }

    private static void theClass() {
        Check.sentence("The public face: 'public final class RecordMatcher'");
        int modifiers = RecordMatcher.class.getModifiers();
        Check.due("public", Modifier.isPublic(modifiers), true);
        Check.due("final", Modifier.isFinal(modifiers), true);
        Check.due("in no package", RecordMatcher.class.getPackageName().isEmpty(), true);
    }

    private static void constants() throws ReflectiveOperationException {
        Check.sentence("The public face: 'public static final int ..'");
        for (int i = 0; i < CONSTANTS.length; i++) {
            Field field = RecordMatcher.class.getDeclaredField(CONSTANTS[i]);
            Check.due(CONSTANTS[i], field.getInt(null), -1 - i);
            Check.due(CONSTANTS[i] + "'s modifiers", field.getModifiers(), CONSTANT);
            Check.due(CONSTANTS[i] + " is an int", field.getType() == int.class, true);
        }
        int seen = 0;
        for (Field field : RecordMatcher.class.getDeclaredFields()) {
            seen += Modifier.isPrivate(field.getModifiers()) ? 0 : 1;
        }
        Check.due("fields that can be seen", seen, CONSTANTS.length);
    }

    private static void constructor() {
        Check.sentence("The public face: 'public RecordMatcher()'");
        Constructor<?>[] constructors = RecordMatcher.class.getDeclaredConstructors();
        Check.due("constructors", constructors.length, 1);
        Check.due("parameters", constructors[0].getParameterCount(), 0);
        Check.due("public", Modifier.isPublic(constructors[0].getModifiers()), true);
    }

    private static void methods() {
        Check.sentence("The public face: its methods and no other");
        Set<String> seen = new TreeSet<>();
        for (Method method : RecordMatcher.class.getDeclaredMethods()) {
            if (!Modifier.isPrivate(method.getModifiers()) && !method.isSynthetic()) {
                seen.add(written(method));
                Check.due(written(method), method.getModifiers(), Modifier.PUBLIC);
            }
        }
        Check.due("methods " + seen, seen.equals(METHODS), true);
    }

    static String written(Method method) {
        StringBuilder parameters = new StringBuilder();
        for (Class<?> type : method.getParameterTypes()) {
            parameters.append(parameters.length() == 0 ? "" : ", ").append(type.getName());
        }
        return method.getReturnType().getName() + " " + method.getName() + "(" + parameters + ")";
    }

    /** Two objects, or two runs of the same calls, could see one another otherwise. */
    private static void noStaticState() {
        Check.sentence("LANGUAGE.md, rule 5: 'Static fields are final'");
        fieldsOf(RecordMatcher.class);
        for (Class<?> inside : RecordMatcher.class.getDeclaredClasses()) {
            Check.due(inside.getName() + " is static", Modifier.isStatic(inside.getModifiers()), true);
            fieldsOf(inside);
        }
    }

    private static void fieldsOf(Class<?> type) {
        for (Field field : type.getDeclaredFields()) {
            if (Modifier.isStatic(field.getModifiers())) {
                Check.due(field + " is final", Modifier.isFinal(field.getModifiers()), true);
            }
        }
    }
}
