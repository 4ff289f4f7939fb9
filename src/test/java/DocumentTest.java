import java.io.IOException;
import java.nio.file.DirectoryStream;
import java.nio.file.Files;
import java.nio.file.Path;
import java.util.ArrayList;
import java.util.List;
import java.util.TreeMap;
import java.util.regex.Matcher;
import java.util.regex.Pattern;

/**
 * Each word of the document's terms and promises is said by a test: the Edge tests name what they hold the class to by
 * check.says(section, words), and here it is looked whether anything is left over.
 */
public final class DocumentTest {
    private static final String TEXT = "\"((?:[^\"\\\\]|\\\\.)*)\"";
    private static final Pattern SAYS = Pattern.compile(
            "\\.says\\(\\s*" + TEXT + ",\\s*(" + TEXT + "(?:\\s*\\+\\s*" + TEXT + ")*)\\s*\\)");
    private static final Check check = new Check();

    public static void main(String[] args) throws IOException {
        TreeMap<String, List<String>> said = wordsOfTests();
        List<String> sections = new ArrayList<>(List.of("Terms"));
        for (int part = 1; part <= 4; part++) {
            sections.add("Terms " + part);
        }
        for (int promise = 1; promise <= 37; promise++) {
            sections.add("Promise " + promise);
        }
        for (String section : sections) {
            String words = Document.section(section).replaceAll("^`[^`]*`", "");
            check.holds(section + " is there", !words.isEmpty());
            String left = leftOver(words, said.getOrDefault(section, List.of()));
            check.holds(section + " is not tested where it says: " + left, left.isEmpty());
        }
        check.end();
    }

    private static TreeMap<String, List<String>> wordsOfTests() throws IOException {
        TreeMap<String, List<String>> said = new TreeMap<>();
        try (DirectoryStream<Path> tests = Files.newDirectoryStream(Path.of("src/test/java"), "Edge*Test.java")) {
            for (Path test : tests) {
                Matcher matcher = SAYS.matcher(Files.readString(test));
                while (matcher.find()) {
                    said.computeIfAbsent(matcher.group(1), section -> new ArrayList<>()).add(joined(matcher.group(2)));
                }
            }
        }
        return said;
    }

    private static String joined(String texts) {
        StringBuilder words = new StringBuilder();
        Matcher matcher = Pattern.compile(TEXT).matcher(texts);
        while (matcher.find()) {
            words.append(matcher.group(1));
        }
        return words.toString();
    }

    /** What no test says, with a bar where something was said. */
    private static String leftOver(String words, List<String> said) {
        char[] left = words.toCharArray();
        for (String part : said) {
            for (int at = words.indexOf(part); at >= 0; at = words.indexOf(part, at + 1)) {
                for (int i = at; i < at + part.length(); i++) {
                    left[i] = '|';
                }
            }
        }
        String rest = new String(left).replaceAll("\\|+", "|").strip();
        return rest.matches(".*[A-Za-z0-9].*") ? rest : "";
    }
}
