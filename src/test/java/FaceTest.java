import java.lang.reflect.Constructor;
import java.lang.reflect.Field;
import java.lang.reflect.Method;
import java.lang.reflect.Modifier;
import java.util.TreeSet;

/** The public face: just the document's members, with its exceptions named. */
public final class FaceTest {
    private static final String[] FACE = {
        "long read(int, boolean, int) throws NullPointerException, ArrayIndexOutOfBoundsException",
        "int write(int, boolean, int, int) throws NullPointerException, ArrayIndexOutOfBoundsException",
        "int length(int, boolean) throws NullPointerException",
        "int make(int, int) throws NegativeArraySizeException",
        "int grid(int, int) throws NegativeArraySizeException",
        "int cell(int, int) throws NullPointerException, ArrayIndexOutOfBoundsException",
        "int boxes(int, boolean) throws NegativeArraySizeException",
        "int put(boolean, int, int, int) throws NullPointerException, ArrayIndexOutOfBoundsException, ArrayStoreException",
        "int value(int) throws NullPointerException, ArrayIndexOutOfBoundsException",
        "int change(int, int) throws NullPointerException, ArrayIndexOutOfBoundsException",
        "int weigh(int, int) throws NullPointerException, ArrayIndexOutOfBoundsException",
        "int roll(int, int) throws NullPointerException, ArrayIndexOutOfBoundsException, ClassCastException",
        "int divide(int, int, boolean) throws ArithmeticException",
        "long divideLong(long, long, boolean) throws ArithmeticException",
        "int raise(boolean) throws NullPointerException, ArithmeticException",
    };

    private static final Expect expect = new Expect("FaceTest");

    public static void main(String[] args) {
        Class<?> face = FaultBench.class;
        expect.same("public final", "the class", Modifier.toString(face.getModifiers()));
        expect.same(new TreeSet<>(java.util.List.of(FACE)).toString(), "the methods", methodsOf(face).toString());
        expect.same("[public ()]", "the constructors", constructorsOf(face).toString());
        for (Field field : face.getDeclaredFields()) {
            expect.same("true", field.getName() + " is private", "" + Modifier.isPrivate(field.getModifiers()));
        }
        classesInside(face);
        namesOfPrivateMethods(face);
        expect.end();
    }

    private static void classesInside(Class<?> face) {
        for (Class<?> inside : face.getDeclaredClasses()) {
            int is = inside.getModifiers();
            boolean open = Modifier.isPublic(is) || Modifier.isProtected(is);
            expect.same("false", inside.getSimpleName() + " is public or protected", "" + open);
            expect.same("true", inside.getSimpleName() + " is static", "" + Modifier.isStatic(is));
        }
    }

    /** Rule 1 of LANGUAGE.md: no private method bears the name of a public one. */
    private static void namesOfPrivateMethods(Class<?> face) {
        TreeSet<String> open = new TreeSet<>();
        for (Method method : face.getMethods()) {
            open.add(method.getName());
        }
        for (Method method : face.getDeclaredMethods()) {
            if (Modifier.isPrivate(method.getModifiers())) {
                expect.same("false", method.getName() + " bears a public name", "" + open.contains(method.getName()));
            }
        }
    }

    private static TreeSet<String> methodsOf(Class<?> face) {
        TreeSet<String> found = new TreeSet<>();
        for (Method method : face.getDeclaredMethods()) {
            if (Modifier.isPrivate(method.getModifiers()) || method.isSynthetic()) {
                continue;
            }
            boolean plain = method.getModifiers() == Modifier.PUBLIC;
            found.add((plain ? "" : "not public alone: ") + method.getReturnType().getSimpleName() + " "
                + method.getName() + "(" + names(method.getParameterTypes()) + ") throws "
                + names(method.getExceptionTypes()));
        }
        return found;
    }

    private static TreeSet<String> constructorsOf(Class<?> face) {
        TreeSet<String> found = new TreeSet<>();
        for (Constructor<?> made : face.getDeclaredConstructors()) {
            found.add(Modifier.toString(made.getModifiers()) + " (" + names(made.getParameterTypes()) + ")");
        }
        return found;
    }

    private static String names(Class<?>[] types) {
        StringBuilder text = new StringBuilder();
        for (Class<?> type : types) {
            text.append(text.length() == 0 ? "" : ", ").append(type.getSimpleName());
        }
        return text.toString();
    }
}
