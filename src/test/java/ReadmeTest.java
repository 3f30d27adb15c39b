import java.io.IOException;
import java.lang.reflect.InvocationTargetException;
import java.lang.reflect.Method;
import java.lang.reflect.Modifier;
import java.nio.file.Files;
import java.nio.file.Path;
import java.util.ArrayList;
import java.util.Arrays;
import java.util.List;
import java.util.Set;
import java.util.TreeSet;
import java.util.regex.Matcher;
import java.util.regex.Pattern;

/** The use that README.md shows: its calls are made on one room, in their order, and must give the answers it names. */
final class ReadmeTest {
    private static final String NEW_ROOM = "PrePressRoom room = new PrePressRoom();";
    private static final Pattern CALL = Pattern.compile("room\\.(\\w+)\\(([-\\d, ]*)\\); +// (.+)");
    private static final Pattern ANSWER = Pattern.compile("(-?\\d+|true|false|throws \\w+)(: .*)?");

    private ReadmeTest() { }

    public static void main(String[] args) throws IOException, ReflectiveOperationException {
        List<String> shown = javaLines(Files.readAllLines(Path.of("README.md")));
        Check.due(NEW_ROOM, () -> shown.get(0));
        PrePressRoom room = new PrePressRoom();
        Set<String> used = new TreeSet<>();
        for (String line : shown.subList(1, shown.size())) {
            Matcher call = CALL.matcher(line);
            boolean isCall = call.matches();
            Check.compare(line, isCall ? "a call" : "no call", "a call");
            if (isCall) {
                used.add(call.group(1));
                Check.compare(line, made(room, call.group(1), call.group(2)), named(call.group(1), call.group(3)));
            }
        }
        Check.due(publicMethods(), () -> used);
        Check.end();
    }

    private static List<String> javaLines(List<String> lines) {
        List<String> shown = new ArrayList<>();
        boolean within = false;
        for (String line : lines) {
            if (line.startsWith("```")) {
                within = line.equals("```java");
            } else if (within) {
                shown.add(line);
            }
        }
        return shown;
    }

    private static String made(PrePressRoom room, String name, String arguments) throws ReflectiveOperationException {
        Object[] numbers = Arrays.stream(arguments.split(", ")).map(Integer::valueOf).toArray();
        Class<?>[] ints = new Class<?>[numbers.length];
        Arrays.fill(ints, int.class);
        Method method = PrePressRoom.class.getMethod(name, ints);
        try {
            return String.valueOf(method.invoke(room, numbers));
        } catch (InvocationTargetException e) {
            return "throws " + e.getCause().getClass().getSimpleName();
        }
    }

    /** grey() alone answers nothing, so its comment is free; every other comment starts with an answer. */
    private static String named(String method, String comment) {
        Matcher answer = ANSWER.matcher(comment);
        if (answer.matches()) {
            return answer.group(1);
        }
        return method.equals("grey") ? "null" : "an answer in: " + comment;
    }

    private static Set<String> publicMethods() {
        Set<String> names = new TreeSet<>();
        for (Method method : PrePressRoom.class.getDeclaredMethods()) {
            if (Modifier.isPublic(method.getModifiers())) {
                names.add(method.getName());
            }
        }
        return names;
    }
}
