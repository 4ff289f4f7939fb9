import java.io.IOException;
import java.lang.reflect.Method;
import java.lang.reflect.Modifier;
import java.nio.file.Files;
import java.nio.file.Path;
import java.util.Map;
import java.util.Set;
import java.util.TreeMap;
import java.util.TreeSet;
import java.util.regex.Matcher;
import java.util.regex.Pattern;

/** README.md shows what the class answers: its Java is one run of calls, and every call of the face is in it. */
public final class ReadmeTest {
    private static final Pattern CALL = Pattern.compile(
            "wall\\.(\\w+)\\(([-0-9, ]*)\\);\\s+// (-?\\d+|[A-Z]+)(?:: .*)?");
    private static final Pattern TEXT = Pattern.compile("for \\(char letter : \"([^\"]*)\"\\.toCharArray\\(\\)\\) \\{");
    /** What stands around a text that is fed; it is fed where its first line stands. */
    private static final Set<String> AROUND = Set.of("", "wall.feed(letter);", "}");
    private static final Map<String, Long> NAMED = Map.of(
            "NONE", -1000000L, "BAD", -1000001L, "STATE", -1000002L, "FULL", -1000003L);
    private static final TreeMap<String, Method> FACE = face();
    private static final Check check = new Check();

    private static OrchardWall wall = null;

    public static void main(String[] args) throws IOException, ReflectiveOperationException {
        Set<String> shown = new TreeSet<>();
        boolean isJava = false;
        for (String line : Files.readAllLines(Path.of("README.md"))) {
            if (line.startsWith("```")) {
                isJava = line.equals("```java");
            } else if (isJava) {
                look(line.strip(), shown);
            }
        }
        check.due("calls of the face that README.md does not show", FACE.size() - shown.size(), 0);
        check.holds("README.md tells how to run the tests", Files.readString(Path.of("README.md")).contains(".ci/run"));
        check.end();
    }

    private static TreeMap<String, Method> face() {
        TreeMap<String, Method> face = new TreeMap<>();
        for (Method method : OrchardWall.class.getDeclaredMethods()) {
            if (Modifier.isPublic(method.getModifiers())) {
                face.put(method.getName(), method);
            }
        }
        return face;
    }

    private static void look(String line, Set<String> shown) throws ReflectiveOperationException {
        Matcher text = TEXT.matcher(line);
        Matcher call = CALL.matcher(line);
        if (line.equals("OrchardWall wall = new OrchardWall();")) {
            wall = new OrchardWall();
        } else if (text.matches()) {
            Check.feed(wall, text.group(1));
        } else if (call.matches() && FACE.containsKey(call.group(1))) {
            shown.add(call.group(1));
            check.due(line, answer(call.group(1), call.group(2)), wanted(call.group(3)));
        } else {
            check.holds("a line that is looked at: " + line, AROUND.contains(line));
        }
    }

    private static long answer(String name, String told) throws ReflectiveOperationException {
        String[] numbers = told.isEmpty() ? new String[0] : told.split(", ");
        Object[] arguments = new Object[numbers.length];
        for (int i = 0; i < numbers.length; i++) {
            arguments[i] = Integer.valueOf(numbers[i]);
        }
        return ((Number) FACE.get(name).invoke(wall, arguments)).longValue();
    }

    private static long wanted(String shown) {
        return NAMED.containsKey(shown) ? NAMED.get(shown) : Long.parseLong(shown);
    }
}
