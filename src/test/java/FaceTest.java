import java.lang.reflect.Constructor;
import java.lang.reflect.Field;
import java.lang.reflect.Method;
import java.lang.reflect.Modifier;
import java.util.Arrays;
import java.util.Set;
import java.util.TreeSet;

/** The public face: what the document has, and nothing else that is not private. */
final class FaceTest {
    private static final String I = "IndexOutOfBoundsException";
    private static final String A = "IllegalArgumentException";
    private static final String S = "IllegalStateException";

    private static final Set<String> METHODS = Set.of(
        method("int", "colour", 3, I, A, S),
        method("int", "box", 6, I, A),
        method("int", "cell", 3, I),
        method("void", "grey", 2, A),
        method("int", "separate", 1, I),
        method("int", "plate", 4, I, S),
        method("int", "trap", 2, I, A, S),
        method("int", "trapped", 3, I, S),
        method("int", "screen", 4, I, A),
        method("int", "rank", 3, I, A),
        method("boolean", "dot", 4, I, S),
        method("int", "share", 4, I, S),
        method("int", "proof", 3, I, S),
        method("int", "impose", 3, A),
        method("int", "slot", 4, S, I),
        method("int", "read", 2, S, I));

    private static String method(String answer, String name, int ints, String... exceptions) {
        return answer + " " + name + "(" + "int,".repeat(ints) + ")" + Arrays.asList(exceptions);
    }

    private static String told(Method m) {
        StringBuilder arguments = new StringBuilder();
        for (Class<?> type : m.getParameterTypes()) {
            arguments.append(type.getSimpleName()).append(',');
        }
        Object[] exceptions = Arrays.stream(m.getExceptionTypes()).map(Class::getSimpleName).toArray();
        return m.getReturnType().getSimpleName() + " " + m.getName() + "(" + arguments + ")" + Arrays.asList(exceptions);
    }

    public static void main(String[] args) {
        Class<?> room = PrePressRoom.class;
        Check.due(true, () -> Modifier.isPublic(room.getModifiers()) && Modifier.isFinal(room.getModifiers()));
        Check.due(-1, () -> PrePressRoom.NONE);

        Set<String> methods = new TreeSet<>();
        for (Method m : room.getDeclaredMethods()) {
            if (Modifier.isPublic(m.getModifiers())) {
                methods.add(told(m));
            } else {
                Check.due("private " + m.getName(), () -> Modifier.toString(m.getModifiers()).split(" ")[0] + " " + m.getName());
                Check.due(false, () -> METHODS.stream().anyMatch(f -> f.contains(" " + m.getName() + "(")));
            }
        }
        Check.due(new TreeSet<>(METHODS), () -> methods);

        for (Field f : room.getDeclaredFields()) {
            boolean face = f.getName().equals("NONE");
            Check.due(face, () -> Modifier.toString(f.getModifiers()).equals("public static final"));
            Check.due(!face, () -> Modifier.isPrivate(f.getModifiers()));
        }
        Check.due(1, () -> room.getDeclaredConstructors().length);
        for (Constructor<?> c : room.getDeclaredConstructors()) {
            Check.due("public 0", () -> Modifier.toString(c.getModifiers()) + " " + c.getParameterCount());
        }
        Check.end();
    }
}
