import java.lang.reflect.Constructor;
import java.lang.reflect.Field;
import java.lang.reflect.Method;
import java.lang.reflect.Modifier;
import java.util.Arrays;
import java.util.TreeSet;

/** The class has the document's public face, and nothing else that others can see. */
public final class FaceTest {
    private static final String[] METHODS = {
        "int put(long, int) throws IllegalArgumentException, IllegalStateException",
        "int fill(int, int) throws IllegalArgumentException, IllegalStateException",
        "int drop() throws IllegalStateException",
        "int wish(int, int) throws IllegalArgumentException, IllegalStateException",
        "int note(int) throws IllegalArgumentException, IllegalStateException",
        "int change(int, int, int) throws IllegalStateException",
        "int extent(int, int) throws IllegalArgumentException",
        "int byteAt(int, int) throws IllegalArgumentException",
        "void crash(int) throws IllegalArgumentException, IllegalStateException",
        "int recover()",
        "boolean isDown()",
        "int writes()",
        "int count(int) throws IllegalArgumentException, IllegalStateException",
        "int doubled() throws IllegalStateException",
    };
    private static int wrong = 0;

    private static void due(String what, Object got, Object want) {
        if (!got.equals(want)) {
            wrong++;
            System.out.println(what + " is " + got + ", due is " + want);
        }
    }

    private static String names(Class<?>[] types) {
        StringBuilder text = new StringBuilder();
        for (Class<?> type : types) {
            text.append(text.length() == 0 ? "" : ", ").append(type.getSimpleName());
        }
        return text.toString();
    }

    private static String face(Method m) {
        String thrown = names(m.getExceptionTypes());
        return m.getReturnType() + " " + m.getName() + "(" + names(m.getParameterTypes()) + ")"
                + (thrown.isEmpty() ? "" : " throws " + thrown);
    }

    private static void checkMethods() {
        TreeSet<String> seen = new TreeSet<>();
        TreeSet<String> publicNames = new TreeSet<>();
        for (Method m : ExtentDisk.class.getDeclaredMethods()) {
            if (!Modifier.isPrivate(m.getModifiers())) {
                due("modifiers of " + m.getName(), m.getModifiers(), Modifier.PUBLIC);
                seen.add(face(m));
                publicNames.add(m.getName());
            }
        }
        due("the methods", seen, new TreeSet<>(Arrays.asList(METHODS)));
        for (Method m : ExtentDisk.class.getDeclaredMethods()) {
            if (Modifier.isPrivate(m.getModifiers())) {
                due("private " + m.getName() + " bears a public name", publicNames.contains(m.getName()), false);
            }
        }
    }

    private static void checkFields() throws IllegalAccessException {
        TreeSet<String> seen = new TreeSet<>();
        for (Field f : ExtentDisk.class.getDeclaredFields()) {
            if (!Modifier.isPrivate(f.getModifiers())) {
                seen.add(Modifier.toString(f.getModifiers()) + " " + f.getType() + " " + f.getName() + " = " + f.get(null));
            }
        }
        due("the constants", seen.toString(), "[public static final int CUT = -3,"
                + " public static final int FULL = -2, public static final int NONE = -1]");
    }

    public static void main(String[] args) throws IllegalAccessException {
        due("the class", Modifier.toString(ExtentDisk.class.getModifiers()), "public final");
        Constructor<?>[] makers = ExtentDisk.class.getDeclaredConstructors();
        due("the constructors", Arrays.toString(makers), "[public ExtentDisk(int)]");
        checkMethods();
        checkFields();
        System.out.println(wrong == 0 ? "the face is as due" : wrong + " things are not as due");
        if (wrong != 0) {
            System.exit(1);
        }
    }
}
