import java.lang.reflect.Constructor;
import java.lang.reflect.Field;
import java.lang.reflect.Method;
import java.lang.reflect.Modifier;
import java.util.Arrays;
import java.util.HashSet;
import java.util.Set;
import java.util.TreeSet;
import java.util.stream.Collectors;

/** The public face: the document's, with its exceptions, and nothing more. */
public final class FaceTest {
    private static final Class<?> FACE = SplitVault.class;
    private static final String IAE = "IllegalArgumentException";
    private static final String ISE = "IllegalStateException";
    private static final String UOE = "UnsupportedOperationException";
    private static final String NSE = "NoSuchElementException";
    private static final String IOB = "IndexOutOfBoundsException";
    private static final String[] METHODS = {
        "int feed(long, int) " + IAE + " " + UOE,
        "int pool()",
        "int store(int, long, int) " + IAE + " " + ISE + " " + UOE,
        "int refresh() " + ISE + " " + UOE,
        "int empty(int) " + IAE + " " + ISE,
        "int rebuild(int, int) " + IAE + " " + ISE + " " + UOE,
        "void stopAfter(int) " + IAE,
        "int resume()",
        "boolean stopped()",
        "long restore(int, int) " + IAE + " " + NSE + " " + ISE,
        "int length(int) " + IAE,
        "int share(int, int, int) " + IAE + " " + NSE + " " + IOB,
        "int forget(int) " + IAE + " " + NSE + " " + ISE,
        "int need(int) " + IAE,
        "int files()",
        "int epoch()",
        "int sent()",
        "int message(int, int) " + IOB + " " + IAE,
    };

    public static void main(String[] args) {
        Check check = new Check();
        check.sentence("The face: a public final class", FaceTest::itself);
        check.sentence("The face: its methods, with the exceptions they throw", FaceTest::methods);
        check.sentence("The face: its constructor", FaceTest::constructor);
        check.sentence("The face: its constants", FaceTest::constants);
        check.sentence("LANGUAGE.md, rule 1: no private method bears the name of a public one", FaceTest::privateNames);
        check.sentence("LANGUAGE.md, rule 1: classes inside are static, and private or package-visible",
                FaceTest::classesInside);
        check.end();
    }

    private static void itself(Check check) {
        check.due("public and final", Modifier.PUBLIC | Modifier.FINAL, FACE.getModifiers());
        check.due("its package", "", FACE.getPackageName());
        check.due("what it extends", Object.class.getName(), FACE.getSuperclass().getName());
        check.due("what it implements", 0, FACE.getInterfaces().length);
    }

    private static void methods(Check check) {
        Set<String> open = new TreeSet<>();
        for (Method m : FACE.getDeclaredMethods()) {
            if (!Modifier.isPrivate(m.getModifiers())) {
                open.add(told(m));
                check.due(m.getName() + " is public", Modifier.PUBLIC, m.getModifiers());
            }
        }
        check.due("methods", new TreeSet<>(Arrays.asList(METHODS)).toString(), open.toString());
    }

    private static String told(Method m) {
        String text = m.getReturnType() + " " + m.getName() + "(" + names(m.getParameterTypes(), ", ") + ")";
        return (text + " " + names(m.getExceptionTypes(), " ")).trim();
    }

    private static String names(Class<?>[] types, String between) {
        return Arrays.stream(types).map(Class::getSimpleName).collect(Collectors.joining(between));
    }

    private static void constructor(Check check) {
        check.due("constructors", 1, FACE.getDeclaredConstructors().length);
        Constructor<?> only = FACE.getDeclaredConstructors()[0];
        check.due("the constructor is public", Modifier.PUBLIC, only.getModifiers());
        check.due("its parameters", "int, int", names(only.getParameterTypes(), ", "));
    }

    private static void constants(Check check) {
        Set<String> open = new TreeSet<>();
        for (Field f : FACE.getDeclaredFields()) {
            if (!Modifier.isPrivate(f.getModifiers())) {
                open.add(Modifier.toString(f.getModifiers()) + " " + f.getType() + " " + f.getName());
            }
        }
        check.due("constants", "[public static final int FLIP, public static final int NONE, "
                + "public static final int TIDY]", open.toString());
        check.due("NONE", -1, SplitVault.NONE);
        check.due("FLIP", 256, SplitVault.FLIP);
        check.due("TIDY", 257, SplitVault.TIDY);
    }

    private static void privateNames(Check check) {
        Set<String> open = new HashSet<>();
        for (Method m : FACE.getMethods()) {
            open.add(m.getName());
        }
        for (Method m : FACE.getDeclaredMethods()) {
            if (Modifier.isPrivate(m.getModifiers())) {
                check.due("a private " + m.getName(), false, open.contains(m.getName()));
            }
        }
    }

    private static void classesInside(Check check) {
        for (Class<?> inside : FACE.getDeclaredClasses()) {
            check.due(inside + " is static", true, Modifier.isStatic(inside.getModifiers()));
            check.due(inside + " is not open", 0, inside.getModifiers() & (Modifier.PUBLIC | Modifier.PROTECTED));
        }
    }
}
