import java.lang.reflect.Constructor;
import java.lang.reflect.Field;
import java.lang.reflect.Method;
import java.lang.reflect.Modifier;
import java.util.Arrays;
import java.util.Set;
import java.util.TreeSet;

/** The public face, word for word, and what LANGUAGE.md's rules 1 and 5 say of the members. */
public final class FaceTest {
    private static final String NO = "NoSuchElementException";
    private static final String ARGUMENT = "IllegalArgumentException";
    private static final String STATE = "IllegalStateException";
    private static final String ROOM = "UnsupportedOperationException";

    public static void main(String[] args) {
        theClass();
        theMethods();
        theOtherMembers();
        Expect.finish();
    }

    private static void theClass() {
        int modifiers = ReturnRows.class.getModifiers();
        Expect.same("public", Modifier.isPublic(modifiers) ? 1 : 0, 1);
        Expect.same("final", Modifier.isFinal(modifiers) ? 1 : 0, 1);
        Constructor<?>[] constructors = ReturnRows.class.getDeclaredConstructors();
        Expect.same("constructors", constructors.length, 1);
        Expect.same("parameters of the constructor", constructors[0].getParameterCount(), 0);
        Expect.same("public constructor", Modifier.isPublic(constructors[0].getModifiers()) ? 1 : 0, 1);
    }

    private static void theMethods() {
        Set<String> due = new TreeSet<>(Arrays.asList(
                "void day(int) " + Arrays.asList(ARGUMENT),
                "int sale(int, int, int) " + Arrays.asList(ARGUMENT, ROOM),
                "int comes(int, int, boolean) " + Arrays.asList(NO, ARGUMENT, STATE, ROOM),
                "void arrive(int, int) " + Arrays.asList(NO, ARGUMENT, STATE),
                "int serial(int, int) " + Arrays.asList(NO, STATE),
                "void quarantine(int, boolean) " + Arrays.asList(NO, STATE),
                "int check(int, int, boolean) " + Arrays.asList(NO, ARGUMENT, STATE),
                "int grade(int, int) " + Arrays.asList(NO, ARGUMENT, STATE),
                "void repair(int, int) " + Arrays.asList(NO, ARGUMENT, STATE),
                "int step(int, boolean) " + Arrays.asList(NO, STATE),
                "boolean scrap(int, int) " + Arrays.asList(NO, ARGUMENT, STATE),
                "int back(int) " + Arrays.asList(NO, STATE),
                "void missing(int, int) " + Arrays.asList(NO, ARGUMENT, STATE),
                "int refund(int, int) " + Arrays.asList(NO, ARGUMENT, STATE),
                "int due(int) " + Arrays.asList(NO),
                "int reason(int, int) " + Arrays.asList(ARGUMENT),
                "int customer(int, int) " + Arrays.asList(ARGUMENT),
                "int told(int, int) " + Arrays.asList(NO, ARGUMENT),
                "int count(int) []"));
        Set<String> got = new TreeSet<>();
        for (Method method : ReturnRows.class.getDeclaredMethods()) {
            if (!Modifier.isPrivate(method.getModifiers())) {
                got.add(signature(method));
                Expect.same(method.getName() + " is public and of the object",
                        method.getModifiers(), Modifier.PUBLIC);
            }
        }
        Expect.same("methods", got.toString(), due.toString());
    }

    private static String signature(Method method) {
        return method.getReturnType().getSimpleName() + " " + method.getName()
                + "(" + names(method.getParameterTypes()) + ") [" + names(method.getExceptionTypes()) + "]";
    }

    private static String names(Class<?>[] types) {
        StringBuilder text = new StringBuilder();
        for (Class<?> type : types) {
            text.append(text.length() == 0 ? "" : ", ").append(type.getSimpleName());
        }
        return text.toString();
    }

    private static void theOtherMembers() {
        Set<String> open = new TreeSet<>();
        for (Method method : ReturnRows.class.getDeclaredMethods()) {
            if (Modifier.isPublic(method.getModifiers())) {
                open.add(method.getName());
            }
        }
        for (Method method : ReturnRows.class.getDeclaredMethods()) {
            boolean hidden = Modifier.isPrivate(method.getModifiers());
            Expect.same("private name " + method.getName(), hidden && open.contains(method.getName()) ? 1 : 0, 0);
        }
        for (Field field : ReturnRows.class.getDeclaredFields()) {
            int modifiers = field.getModifiers();
            Expect.same("private field " + field.getName(), Modifier.isPrivate(modifiers) ? 1 : 0, 1);
            boolean loose = Modifier.isStatic(modifiers) && !Modifier.isFinal(modifiers);
            Expect.same("static state " + field.getName(), loose ? 1 : 0, 0);
        }
        for (Class<?> inside : ReturnRows.class.getDeclaredClasses()) {
            int modifiers = inside.getModifiers();
            Expect.same("static " + inside.getName(), Modifier.isStatic(modifiers) ? 1 : 0, 1);
            boolean visible = Modifier.isPublic(modifiers) || Modifier.isProtected(modifiers);
            Expect.same("visible " + inside.getName(), visible ? 1 : 0, 0);
        }
    }
}
