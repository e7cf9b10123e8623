import java.io.IOException;
import java.lang.reflect.InvocationTargetException;
import java.lang.reflect.Method;
import java.nio.charset.StandardCharsets;
import java.nio.file.Files;
import java.nio.file.Path;
import java.util.Set;
import java.util.TreeSet;
import java.util.regex.Matcher;
import java.util.regex.Pattern;

/** The answers that README.md shows are the ones that the class gives, and it shows every method of the face. */
public final class ReadmeTest {
    private static final String NEW_OBJECT = "TripodScale scale = new TripodScale();";
    private static final Pattern CALL = Pattern.compile("scale\\.(\\w+)\\((.*)\\); +// (throws \\w+|true|false|-?\\d+).*");
    private static final Check CHECK = new Check();
    private static final Set<String> SHOWN = new TreeSet<>();

    public static void main(String[] args) throws IOException, ReflectiveOperationException {
        String readme = Files.readString(Path.of("README.md"), StandardCharsets.UTF_8);
        for (String part : readme.split("(?m)^```java$")) {
            int end = part.indexOf("```");
            if (end >= 0) {
                example(part.substring(0, end).trim().split("\n"));
            }
        }
        for (Method method : TripodScale.class.getMethods()) {
            if (method.getDeclaringClass() == TripodScale.class) {
                CHECK.due("README.md shows " + method.getName(), SHOWN.contains(method.getName()), true);
            }
        }
        CHECK.finish();
    }

    private static void example(String[] lines) throws ReflectiveOperationException {
        CHECK.due("begins with a new object: " + lines[0], lines[0].equals(NEW_OBJECT), true);
        TripodScale scale = new TripodScale();
        for (int i = 1; i < lines.length; i++) {
            Matcher call = CALL.matcher(lines[i]);
            boolean isCall = call.matches();
            CHECK.due("a call with its answer: " + lines[i], isCall, true);
            if (isCall) {
                SHOWN.add(call.group(1));
                String got = answer(scale, call.group(1), call.group(2));
                CHECK.due(lines[i] + " answered " + got + ", which is due", got.equals(call.group(3)), true);
            }
        }
    }

    private static String answer(TripodScale scale, String name, String words) throws ReflectiveOperationException {
        String[] parts = words.isEmpty() ? new String[0] : words.split(", ");
        Class<?>[] types = new Class<?>[parts.length];
        Object[] arguments = new Object[parts.length];
        for (int i = 0; i < parts.length; i++) {
            types[i] = int.class;
            arguments[i] = Integer.valueOf(parts[i]);
        }
        try {
            return TripodScale.class.getMethod(name, types).invoke(scale, arguments).toString();
        } catch (InvocationTargetException e) {
            return "throws " + e.getCause().getClass().getSimpleName();
        }
    }
}
