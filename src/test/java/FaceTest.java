import java.lang.reflect.Constructor;
import java.lang.reflect.Field;
import java.lang.reflect.Method;
import java.lang.reflect.Modifier;
import java.util.Arrays;
import java.util.Set;
import java.util.TreeSet;

/** The public face: just the document's, with its exceptions, and nothing else to be seen. */
public final class FaceTest {
    private static final String INDEX = " IndexOutOfBoundsException";
    private static final String ARGUMENT = " IllegalArgumentException";
    private static final String ROOM = " UnsupportedOperationException";
    private static final String ELEMENT = " NoSuchElementException";
    private static final String[] METHODS = {
        "int place(int, int, int)" + ARGUMENT + ROOM,
        "void change(int, int, int, int)" + INDEX + ARGUMENT,
        "int ask(int, int, int, int)" + INDEX + ARGUMENT + ROOM,
        "int step(int, int, int)" + INDEX + ARGUMENT,
        "void seen(int, int, int, int)" + INDEX + ARGUMENT,
        "boolean unsee(int, int)" + INDEX,
        "int played(int, int, int)" + INDEX + ELEMENT,
        "int trace()",
        "int unlike()",
        "int found(int, boolean)" + INDEX,
        "int overlap(int)" + INDEX,
        "long counts(int, boolean, int, int, int)" + INDEX + ARGUMENT + ELEMENT,
        "long total()",
        "long saved(int)" + INDEX,
        "int narrow()",
        "int alone(int)" + INDEX,
        "int count(int)"};

    public static void main(String[] args) {
        Class<?> face = QueueReader.class;
        Due.truth("the class is public and final",
                Modifier.isPublic(face.getModifiers()) && Modifier.isFinal(face.getModifiers()));
        checkMethods(face);
        checkMembers(face);
        Due.answer("NONE", -1, () -> QueueReader.NONE);
        Due.end();
    }

    private static void checkMethods(Class<?> face) {
        Set<String> seen = new TreeSet<>();
        Set<String> publicNames = new TreeSet<>();
        for (Method m : face.getDeclaredMethods()) {
            if (!Modifier.isPrivate(m.getModifiers()) && !m.isSynthetic()) {
                Due.truth(m.getName() + " is public", Modifier.isPublic(m.getModifiers()));
                seen.add(text(m));
                publicNames.add(m.getName());
            }
        }
        Due.same("the methods", seen.toString(), new TreeSet<>(Arrays.asList(METHODS)).toString());
        for (Method m : face.getDeclaredMethods()) {
            if (Modifier.isPrivate(m.getModifiers())) {
                Due.truth(m.getName() + " is no public name", !publicNames.contains(m.getName()));
            }
        }
    }

    private static String text(Method m) {
        StringBuilder text = new StringBuilder();
        text.append(m.getReturnType().getSimpleName()).append(' ').append(m.getName()).append('(');
        for (int i = 0; i < m.getParameterCount(); i++) {
            text.append(i > 0 ? ", " : "").append(m.getParameterTypes()[i].getSimpleName());
        }
        text.append(')');
        for (Class<?> thrown : m.getExceptionTypes()) {
            text.append(' ').append(thrown.getSimpleName());
        }
        return text.toString();
    }

    private static void checkMembers(Class<?> face) {
        Constructor<?>[] makers = face.getDeclaredConstructors();
        Due.truth("one public constructor without arguments", makers.length == 1
                && makers[0].getParameterCount() == 0 && Modifier.isPublic(makers[0].getModifiers()));
        for (Field f : face.getDeclaredFields()) {
            int m = f.getModifiers();
            Due.truth("field " + f.getName(), f.getName().equals("NONE") ? Modifier.isPublic(m) : Modifier.isPrivate(m));
            Due.truth("static field " + f.getName() + " is final", !Modifier.isStatic(m) || Modifier.isFinal(m));
        }
        for (Class<?> inside : face.getDeclaredClasses()) {
            int m = inside.getModifiers();
            Due.truth("class inside " + inside.getSimpleName(),
                    Modifier.isStatic(m) && !Modifier.isPublic(m) && !Modifier.isProtected(m));
        }
    }
}
