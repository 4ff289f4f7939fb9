import java.lang.reflect.Constructor;
import java.lang.reflect.Field;
import java.lang.reflect.Method;
import java.lang.reflect.Modifier;
import java.nio.file.Files;
import java.nio.file.Path;
import java.util.HashSet;
import java.util.Set;
import java.util.regex.Matcher;
import java.util.regex.Pattern;

/** The rules of LANGUAGE.md that can be looked at by machine, and the public face. */
public final class LanguageTest {
    private static final Set<String> FACE = Set.of("row(III)", "set(III)", "copy(IIIII)", "drop(I)", "feed(I)",
            "orchard()", "fault()", "undo()", "plan(IIII)", "raid()", "grow(II)", "write(II)", "tear()", "raider(II)",
            "tree(II)", "far(II)", "ahead(I)", "raiderAhead(II)", "safe(III)", "bestAlone(II)", "watch(I)",
            "days(III)", "daysValue(IIIII)", "shares(II)", "bare(I)", "who(III)", "sleep(II)", "quietest()",
            "image(I)", "restore(I)", "kind(I)", "as(II)", "ask(II)", "trace(I)", "count(I)", "status()");
    private static final Set<String> CONSTANTS = Set.of("NONE", "BAD", "STATE", "FULL");
    private static final Check check = new Check();

    public static void main(String[] args) throws Exception {
        theFace();
        for (Class<?> inside : OrchardWall.class.getDeclaredClasses()) {
            check.due(inside + " is static", Modifier.isStatic(inside.getModifiers()) ? 1 : 0, 1);
            limits(inside);
        }
        limits(OrchardWall.class);
        check.due("classes", OrchardWall.class.getDeclaredClasses().length <= 11 ? 1 : 0, 1);
        words(Files.readString(Path.of("src/main/java/OrchardWall.java")));
        check.end();
    }

    private static void theFace() {
        check.due("public and final", OrchardWall.class.getModifiers(), Modifier.PUBLIC | Modifier.FINAL);
        Set<String> seen = new HashSet<>();
        for (Method method : OrchardWall.class.getDeclaredMethods()) {
            if (!Modifier.isPrivate(method.getModifiers()) && !method.isSynthetic()) {
                seen.add(nameOf(method));
                boolean isLong = method.getName().equals("daysValue");
                check.due(method + " answers", method.getReturnType() == (isLong ? long.class : int.class) ? 1 : 0, 1);
                check.due(method + " is public", method.getModifiers(), Modifier.PUBLIC);
            }
        }
        check.due("methods of the face", seen.equals(FACE) ? 1 : 0, 1);
        Set<String> constants = new HashSet<>();
        for (Field field : OrchardWall.class.getDeclaredFields()) {
            if (!Modifier.isPrivate(field.getModifiers())) {
                constants.add(field.getName());
                check.due(field + " is a constant", field.getModifiers(),
                        Modifier.PUBLIC | Modifier.STATIC | Modifier.FINAL);
            }
        }
        check.due("constants of the face", constants.equals(CONSTANTS) ? 1 : 0, 1);
        Constructor<?>[] constructors = OrchardWall.class.getDeclaredConstructors();
        check.due("constructors", constructors.length, 1);
        check.due("constructor is public", constructors[0].getModifiers(), Modifier.PUBLIC);
    }

    private static String nameOf(Method method) {
        StringBuilder name = new StringBuilder(method.getName()).append('(');
        for (Class<?> type : method.getParameterTypes()) {
            name.append(type == int.class ? 'I' : '?');
        }
        return name.append(')').toString();
    }

    private static void limits(Class<?> type) {
        int fields = 0;
        for (Field field : type.getDeclaredFields()) {
            if (Modifier.isStatic(field.getModifiers())) {
                check.due(field + " is final", Modifier.isFinal(field.getModifiers()) ? 1 : 0, 1);
            } else {
                fields++;
            }
        }
        check.due(type + " has few fields", fields <= 20 ? 1 : 0, 1);
        for (Method method : type.getDeclaredMethods()) {
            check.due(method + " has few parameters", method.getParameterCount() <= 7 ? 1 : 0, 1);
            boolean isOfFace = type == OrchardWall.class && Modifier.isPublic(method.getModifiers());
            boolean hasItsName = FACE.stream().anyMatch(name -> name.startsWith(method.getName() + "("));
            check.due(method + " has a name of its own", isOfFace || !hasItsName ? 1 : 0, 1);
        }
    }

    private static void words(String source) {
        String code = source.replaceAll("(?s)/\\*.*?\\*/", "").replaceAll("//[^\n]*", "");
        for (String word : new String[] {"throw", "throws", "try", "catch", "finally", "synchronized", "assert",
            "double", "float", "native", "volatile", "yield", "var", "System\\.(?!arraycopy)\\w+", "\\w+Exact"}) {
            Matcher matcher = Pattern.compile("\\b" + word + "\\b").matcher(code);
            check.due("the word " + word, matcher.find() ? 1 : 0, 0);
        }
        check.due("lambdas, method references", code.contains("->") || code.contains("::") ? 1 : 0, 0);
        Matcher imports = Pattern.compile("import ([^;]*);").matcher(code);
        while (imports.find()) {
            check.due("import " + imports.group(1), imports.group(1).equals("java.util.Arrays") ? 1 : 0, 1);
        }
        check.due("no package", Pattern.compile("(?m)^package").matcher(code).find() ? 1 : 0, 0);
        check.due("plain letters", source.chars().allMatch(letter -> letter < 128) ? 1 : 0, 1);
        Matcher method = Pattern.compile("(?ms)^( {4,8})(?:public|private|static|final|int|long|boolean|void)"
                + "[^=;{}]*\\([^;{}]*\\) \\{\n(.*?)^\\1\\}").matcher(code);
        int methods = 0;
        while (method.find()) {
            methods++;
            check.due("a short method", method.group(2).lines().count() <= 60 ? 1 : 0, 1);
        }
        check.due("methods were looked at", methods > 80 ? 1 : 0, 1);
    }
}
