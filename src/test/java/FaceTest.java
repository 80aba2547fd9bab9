import java.lang.reflect.Constructor;
import java.lang.reflect.Field;
import java.lang.reflect.Method;
import java.lang.reflect.Modifier;
import java.util.Arrays;
import java.util.Set;
import java.util.TreeSet;

/** The public face is that of the document, and there is no other. */
public final class FaceTest {
    private static final String[] FACE = {
        "int feed(int, int, int, int, int) throws IllegalStateException",
        "int end(int) throws IllegalArgumentException, IllegalStateException",
        "int again()",
        "int readWords(int) throws IndexOutOfBoundsException, IllegalArgumentException",
        "int readBytes(int) throws IndexOutOfBoundsException, IllegalArgumentException",
        "int fault(int) throws IndexOutOfBoundsException",
        "int writeWords(int) throws IndexOutOfBoundsException, IllegalStateException",
        "int writeBytes(int, int) throws IndexOutOfBoundsException, IllegalStateException, IllegalArgumentException",
        "int byteAt(int) throws IndexOutOfBoundsException",
        "int copy(int, int) throws IndexOutOfBoundsException, IllegalStateException",
        "boolean drop(int) throws IndexOutOfBoundsException",
        "boolean same(int, int) throws IndexOutOfBoundsException",
        "int judge(int) throws IndexOutOfBoundsException, IllegalStateException",
        "int place(int) throws IndexOutOfBoundsException",
        "int overlay(int, int, int, int) throws IndexOutOfBoundsException, IllegalStateException, "
            + "IllegalArgumentException, UnsupportedOperationException",
        "int relate(int, int) throws IndexOutOfBoundsException, IllegalStateException, "
            + "IllegalArgumentException, UnsupportedOperationException",
        "boolean is(int, int, int) throws IndexOutOfBoundsException, IllegalStateException, "
            + "IllegalArgumentException, UnsupportedOperationException",
        "int locate(int, int, int) throws IndexOutOfBoundsException, IllegalStateException, "
            + "IllegalArgumentException, UnsupportedOperationException",
        "int hull(int, int) throws IndexOutOfBoundsException, IllegalStateException, UnsupportedOperationException",
        "int triangles(int, int) throws IndexOutOfBoundsException, IllegalStateException, "
            + "UnsupportedOperationException",
        "int simplify(int, int, int) throws IndexOutOfBoundsException, IllegalStateException, "
            + "IllegalArgumentException",
        "long area(int) throws IndexOutOfBoundsException, IllegalStateException",
        "int bounds(int, int) throws IndexOutOfBoundsException, IllegalStateException, IllegalArgumentException",
        "int find(int, int, int, int, int) throws IllegalArgumentException",
        "int nearest(int, int, int) throws IllegalArgumentException",
        "int found(int) throws IndexOutOfBoundsException",
        "int plan(int, int) throws IndexOutOfBoundsException",
        "int ordinate(int, int, int) throws IndexOutOfBoundsException",
        "int count(int, int) throws IndexOutOfBoundsException",
        "void point(int, long, long) throws IndexOutOfBoundsException, IllegalArgumentException",
        "int side(int, int, int) throws IndexOutOfBoundsException",
        "int circle(int, int, int, int) throws IndexOutOfBoundsException",
    };

    public static void main(String[] args) {
        Set<String> due = new TreeSet<>(Arrays.asList(FACE));
        Set<String> got = new TreeSet<>();
        Set<String> names = new TreeSet<>();
        Class<?> type = ShapeWorkshop.class;
        for (Method method : type.getDeclaredMethods()) {
            if (!Modifier.isPrivate(method.getModifiers())) {
                got.add(told(method));
                names.add(method.getName());
                Bench.holds(method.getName() + " is public, not static",
                        (method.getModifiers() & (Modifier.PUBLIC | Modifier.STATIC)) == Modifier.PUBLIC);
            }
        }
        Bench.due("the methods", got, due);
        for (Method method : type.getDeclaredMethods()) {
            Bench.holds("the name of private " + method.getName(),
                    !Modifier.isPrivate(method.getModifiers()) || !names.contains(method.getName()));
        }
        for (Class<?> inner : type.getDeclaredClasses()) {
            Bench.holds(inner.getName() + " is static and private",
                    Modifier.isStatic(inner.getModifiers()) && Modifier.isPrivate(inner.getModifiers()));
            for (Method method : inner.getDeclaredMethods()) {
                Bench.holds("the name of inner " + method.getName(), !names.contains(method.getName()));
            }
            int fields = 0;
            for (Field field : inner.getDeclaredFields()) {
                fields += Modifier.isStatic(field.getModifiers()) ? 0 : 1;
            }
            Bench.holds(inner.getName() + " has twenty fields at most", fields <= 20);
        }
        int constants = 0;
        for (Field field : type.getDeclaredFields()) {
            if (!Modifier.isPrivate(field.getModifiers())) {
                constants++;
                Bench.due("the constant", field.getName(), "NONE");
            }
        }
        Bench.due("constants", constants, 1);
        Bench.due("NONE", ShapeWorkshop.NONE, -1);
        Constructor<?>[] constructors = type.getDeclaredConstructors();
        Bench.due("constructors", constructors.length, 1);
        Bench.due("constructor", Arrays.toString(constructors[0].getParameterTypes()), "[int]");
        Bench.holds("class is public and final",
                (type.getModifiers() & (Modifier.PUBLIC | Modifier.FINAL)) == (Modifier.PUBLIC | Modifier.FINAL));
        Bench.close("FaceTest");
    }

    private static String told(Method method) {
        StringBuilder text = new StringBuilder();
        text.append(method.getReturnType().getSimpleName()).append(' ').append(method.getName()).append('(');
        list(text, method.getParameterTypes());
        text.append(')');
        if (method.getExceptionTypes().length > 0) {
            text.append(" throws ");
            list(text, method.getExceptionTypes());
        }
        return text.toString();
    }

    private static void list(StringBuilder text, Class<?>[] types) {
        for (int i = 0; i < types.length; i++) {
            text.append(i > 0 ? ", " : "").append(types[i].getSimpleName());
        }
    }
}
