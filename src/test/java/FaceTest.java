import java.io.IOException;
import java.lang.reflect.Constructor;
import java.lang.reflect.Field;
import java.lang.reflect.Member;
import java.lang.reflect.Method;
import java.lang.reflect.Modifier;
import java.nio.charset.StandardCharsets;
import java.nio.file.Files;
import java.nio.file.Path;
import java.util.Arrays;
import java.util.Set;
import java.util.TreeSet;
import java.util.regex.Matcher;
import java.util.regex.Pattern;

/** The class has the document's face and nothing else, and its source keeps to what can be seen of LANGUAGE.md. */
public final class FaceTest {
    private static final Check CHECK = new Check();
    private static final String BOUNDS = "IndexOutOfBoundsException";
    private static final String ARGUMENT = "IllegalArgumentException";
    private static final String STATE = "IllegalStateException";
    private static final String[] FACE = {
        "int setCell 4 " + BOUNDS + " " + ARGUMENT,
        "int place 3 " + ARGUMENT + " " + STATE,
        "int lift 1 " + BOUNDS,
        "long load 2 " + BOUNDS + " " + ARGUMENT,
        "int reading 2 " + BOUNDS + " " + ARGUMENT,
        "boolean isStable 0",
        "int overloaded 0",
        "int room 2 " + ARGUMENT,
        "int setHypotheses 1 " + ARGUMENT,
        "long setWeight 2 " + BOUNDS + " " + ARGUMENT + " " + STATE,
        "int addTest 0 " + STATE,
        "int setChances 4 " + BOUNDS + " " + ARGUMENT,
        "int observe 2 " + BOUNDS + " " + ARGUMENT + " " + STATE + " ArithmeticException",
        "long odds 2 " + BOUNDS + " " + ARGUMENT,
        "long planValue 2 " + ARGUMENT + " " + STATE,
        "int planFirst 1 " + ARGUMENT + " " + STATE,
        "long tail 3 " + ARGUMENT,
        "int fewestTrials 3 " + ARGUMENT,
        "int addSupporter 2 " + ARGUMENT + " " + STATE,
        "int addSession 2 " + ARGUMENT + " " + STATE,
        "int clearSessions 0",
        "int covered 0",
        "int supporterOf 1 " + BOUNDS,
        "int undo 0 " + STATE,
        "long digest 0"};
    private static final String[] NOT_IN_THE_LANGUAGE = {"import ", "package ", "->", "::", "try ", "catch", "finally",
        "synchronized", "assert ", "instanceof", "Exact(", "System.out", "System.in", "Random", "getClass"};

    // What the program may take from the library: functions over int and long alone, none that throws by itself.
    private static final Pattern LIBRARY = Pattern.compile("\\b((?:Integer|Long|Math|System|Arrays|String|List|Double|Float)\\s*\\.\\s*\\w+)\\W");
    private static final Set<String> IN_THE_LANGUAGE = Set.of("Math.abs", "Math.max", "Math.min", "Math.floorDiv", "System.arraycopy");
    private static final Pattern METHOD = Pattern.compile("((?: {4}){1,2})(?!.*\\bclass\\b)\\w.*\\) (?:throws .*)?\\{");

    public static void main(String[] args) throws IOException {
        face();
        constant();
        members(TripodScale.class);
        CHECK.due("few classes", TripodScale.class.getDeclaredClasses().length <= 12, true);
        for (Class<?> inside : TripodScale.class.getDeclaredClasses()) {
            CHECK.due(inside + " is static", Modifier.isStatic(inside.getModifiers()), true);
            CHECK.due(inside + " is hidden", Modifier.isPublic(inside.getModifiers()), false);
            members(inside);
        }
        source();
        CHECK.finish();
    }

    private static void face() {
        CHECK.due("the class is public and final", TripodScale.class.getModifiers(), Modifier.PUBLIC | Modifier.FINAL);
        CHECK.due("the class stands alone", TripodScale.class.getSuperclass() == Object.class, true);
        Set<String> told = new TreeSet<>();
        for (Method method : TripodScale.class.getDeclaredMethods()) {
            if (!Modifier.isPrivate(method.getModifiers())) {
                told.add(line(method));
                CHECK.due(method + " is plainly public", method.getModifiers(), Modifier.PUBLIC);
            }
        }
        same("methods", told, new TreeSet<>(Arrays.asList(FACE)));
        Constructor<?>[] constructors = TripodScale.class.getDeclaredConstructors();
        CHECK.due("one constructor", constructors.length, 1);
        CHECK.due("without parameters", constructors[0].getParameterCount(), 0);
        CHECK.due("which is public", constructors[0].getModifiers(), Modifier.PUBLIC);
    }

    private static String line(Method method) {
        StringBuilder line = new StringBuilder(method.getReturnType() + " " + method.getName() + " " + method.getParameterCount());
        for (Class<?> thrown : method.getExceptionTypes()) {
            line.append(' ').append(thrown.getSimpleName());
        }
        for (Class<?> parameter : method.getParameterTypes()) {
            CHECK.due("an int parameter of " + method, parameter == int.class, true);
        }
        return line.toString();
    }

    private static void constant() {
        Set<String> told = new TreeSet<>();
        for (Field field : TripodScale.class.getDeclaredFields()) {
            if (!Modifier.isPrivate(field.getModifiers())) {
                told.add(field.toString());
            }
        }
        same("constants", told, Set.of("public static final int TripodScale.NONE"));
    }

    private static void members(Class<?> type) {
        Set<String> faceNames = new TreeSet<>();
        for (String line : FACE) {
            faceNames.add(line.split(" ")[1]);
        }
        int fields = 0;
        for (Field field : type.getDeclaredFields()) {
            boolean isStatic = Modifier.isStatic(field.getModifiers());
            fields += isStatic ? 0 : 1;
            CHECK.due(field + " is final if static", isStatic && !isFinal(field), false);
        }
        CHECK.due("few fields in " + type, fields <= 20, true);
        for (Method method : type.getDeclaredMethods()) {
            boolean ofFace = type == TripodScale.class && Modifier.isPublic(method.getModifiers());
            CHECK.due(method + " bears a name of the face", !ofFace && faceNames.contains(method.getName()), false);
            CHECK.due(method + " takes few parameters", method.getParameterCount() <= 7, true);
        }
    }

    private static boolean isFinal(Member member) {
        return Modifier.isFinal(member.getModifiers());
    }

    private static void source() throws IOException {
        String source = Files.readString(Path.of("src/main/java/TripodScale.java"), StandardCharsets.ISO_8859_1);
        for (String words : NOT_IN_THE_LANGUAGE) {
            CHECK.due("the source holds \"" + words + "\"", source.contains(words), false);
        }
        CHECK.due("all signs are 1 to 127", source.chars().allMatch(c -> c >= 1 && c <= 127), true);
        CHECK.due("no texts are joined by +", source.matches("(?s).*(\"\\s*\\+|\\+\\s*\").*"), false);
        Matcher use = LIBRARY.matcher(source);
        while (use.find()) {
            CHECK.due("the language has " + use.group(), IN_THE_LANGUAGE.contains(use.group(1)), true);
        }
        shortMethods(source.split("\n"));
    }

    /** A method ends at the next line that closes a brace at the depth at which it began. */
    private static void shortMethods(String[] lines) {
        for (int i = 0; i < lines.length; i++) {
            Matcher head = METHOD.matcher(lines[i]);
            if (head.matches()) {
                int end = i;
                while (end < lines.length && !lines[end].equals(head.group(1) + "}")) {
                    end++;
                }
                CHECK.due("a short method: " + lines[i].trim(), end - i <= 60, true);
            }
        }
    }

    private static void same(String what, Set<String> got, Set<String> want) {
        if (!got.equals(want)) {
            System.out.println(what + " are " + got + ", due are " + want);
        }
        CHECK.due("the " + what + " of the face", got.equals(want), true);
    }
}
