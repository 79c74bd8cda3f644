import java.lang.reflect.Constructor;
import java.lang.reflect.Field;
import java.lang.reflect.Method;
import java.lang.reflect.Modifier;
import java.util.Set;
import java.util.TreeSet;

/** The public face is the document's and nothing more; the fields are of the kinds LANGUAGE.md leaves. */
public final class FaceTest {
    private static final Set<String> CONSTANTS = Set.of(
        "MONAD = 1", "DYAD = 2", "ARG_X = 0", "ARG_Y = 1", "OK = 0", "ERR_LENGTH = 1",
        "ERR_DOMAIN = 2", "ERR_LIMIT = 3", "NO_TRAIN = 4", "BAD_MODE = 5", "NOT_RUN = 6",
        "MAX_TEXT = 32", "MAX_CANON = 64", "MAX_ADVERBS = 2", "MAX_LIMIT = 16");

    private static final Set<String> METHODS = Set.of(
        "int limit()", "boolean putChar(char)", "void clearText()", "int textLength()",
        "boolean parse()", "boolean hasTrain()", "int canonLength()", "char canonChar(int)",
        "boolean pushArg(int,int)", "void clearArgs()", "int argLength(int)", "int apply(int)",
        "int status()", "int resultLength()", "int resultAt(int)");

    public static void main(String[] args) throws Exception {
        Class<?> face = TacitTrains.class;
        Checks.due("class modifiers", face.getModifiers(), Modifier.PUBLIC | Modifier.FINAL);
        Checks.due("superclass", face.getSuperclass(), Object.class);
        Checks.due("interfaces", face.getInterfaces().length, 0);
        Checks.due("nested classes", face.getDeclaredClasses().length, 0);
        constants(face);
        methods(face);
        constructors(face);
        Checks.finish();
    }

    private static void constants(Class<?> face) throws Exception {
        Set<String> seen = new TreeSet<>();
        for (Field field : face.getDeclaredFields()) {
            int modifiers = field.getModifiers();
            if (Modifier.isStatic(modifiers)) {
                boolean whole = field.getType() == int.class || field.getType() == long.class;
                Checks.due(field + " is a number constant", whole && Modifier.isFinal(modifiers), true);
            }
            if (Modifier.isPrivate(modifiers)) {
                continue;
            }
            Checks.due(field + " modifiers", modifiers, Modifier.PUBLIC | Modifier.STATIC | Modifier.FINAL);
            seen.add(field.getName() + " = " + field.getInt(null));
        }
        Checks.due("constants", seen, new TreeSet<>(CONSTANTS));
    }

    private static void methods(Class<?> face) {
        Set<String> seen = new TreeSet<>();
        Set<String> publicNames = new TreeSet<>();
        Set<String> privateNames = new TreeSet<>();
        for (Method method : face.getDeclaredMethods()) {
            Checks.due(method + " has at most seven parameters", method.getParameterCount() <= 7, true);
            if (Modifier.isPrivate(method.getModifiers())) {
                privateNames.add(method.getName());
                continue;
            }
            Checks.due(method + " modifiers", method.getModifiers(), Modifier.PUBLIC);
            publicNames.add(method.getName());
            String whole = method.toString().replace("public ", "").replace("TacitTrains.", "");
            seen.add(whole);
        }
        privateNames.retainAll(publicNames);
        Checks.due("methods", seen, new TreeSet<>(METHODS));
        Checks.due("private methods with a public name", privateNames, new TreeSet<String>());
    }

    private static void constructors(Class<?> face) {
        Constructor<?>[] all = face.getDeclaredConstructors();
        Checks.due("constructors", all.length, 1);
        Checks.due("constructor", all[0].toString(), "public TacitTrains(int)");
    }
}
