import java.lang.reflect.Constructor;
import java.lang.reflect.Field;
import java.lang.reflect.Method;
import java.lang.reflect.Modifier;
import java.util.Arrays;
import java.util.TreeSet;

/** The public face is the document's, and nothing else of the class can be seen (rule 1 of LANGUAGE.md). */
public final class FaceTest {
    private static final String[] FACE = {
        "int put(int, long) IllegalArgumentException IndexOutOfBoundsException",
        "int delete(int) IllegalArgumentException IndexOutOfBoundsException",
        "void batch() IllegalStateException",
        "int end(boolean) IllegalStateException IndexOutOfBoundsException",
        "int sync()",
        "int flush()",
        "int merge(int) IllegalArgumentException",
        "int crash()",
        "int snapshot() IndexOutOfBoundsException",
        "void release(int) IllegalArgumentException",
        "long get(int, int) IllegalArgumentException UnsupportedOperationException",
        "int next(int, int) IllegalArgumentException",
        "int entry(int, int, int, int) IllegalArgumentException IndexOutOfBoundsException",
        "int count(int, int) IllegalArgumentException",
    };

    private FaceTest() {
    }

    public static void main(String[] args) {
        Due due = new Due("FaceTest");
        due.same("public final", Modifier.toString(RunKeeper.class.getModifiers()));
        due.same(new TreeSet<>(Arrays.asList(FACE)).toString(), publicMethods().toString());
        due.same("[public RunKeeper()]", Arrays.toString(RunKeeper.class.getDeclaredConstructors()));
        for (Method method : RunKeeper.class.getDeclaredMethods()) {
            due.same("public or private", isPublicOrPrivate(method) ? "public or private" : method.toString());
            due.same("name of its own", isNamedAsTheFace(method) ? method.toString() : "name of its own");
        }
        for (Field field : RunKeeper.class.getDeclaredFields()) {
            due.same("private", Modifier.isPrivate(field.getModifiers()) ? "private" : field.toString());
        }
        checkClassesInside(due);
        due.end();
    }

    private static TreeSet<String> publicMethods() {
        TreeSet<String> face = new TreeSet<>();
        for (Method method : RunKeeper.class.getDeclaredMethods()) {
            if (Modifier.isPublic(method.getModifiers())) {
                face.add(faceOf(method));
            }
        }
        return face;
    }

    private static String faceOf(Method method) {
        StringBuilder text = new StringBuilder(method.getReturnType().getSimpleName());
        text.append(' ').append(method.getName()).append('(');
        for (Class<?> type : method.getParameterTypes()) {
            text.append(text.charAt(text.length() - 1) == '(' ? "" : ", ").append(type.getSimpleName());
        }
        text.append(')');
        for (Class<?> type : method.getExceptionTypes()) {
            text.append(' ').append(type.getSimpleName());
        }
        return text.toString();
    }

    private static boolean isPublicOrPrivate(Method method) {
        return Modifier.isPublic(method.getModifiers()) || Modifier.isPrivate(method.getModifiers());
    }

    private static boolean isNamedAsTheFace(Method method) {
        return !Modifier.isPublic(method.getModifiers())
                && Arrays.stream(FACE).anyMatch(line -> line.contains(" " + method.getName() + "("));
    }

    private static void checkClassesInside(Due due) {
        for (Class<?> inside : RunKeeper.class.getDeclaredClasses()) {
            boolean seen = Modifier.isPublic(inside.getModifiers()) || Modifier.isProtected(inside.getModifiers());
            due.same("static and not seen",
                    Modifier.isStatic(inside.getModifiers()) && !seen ? "static and not seen" : inside.toString());
            for (Constructor<?> maker : inside.getDeclaredConstructors()) {
                due.same("not synthetic", maker.isSynthetic() ? maker.toString() : "not synthetic");
            }
        }
    }
}
