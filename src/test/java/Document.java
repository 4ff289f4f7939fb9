import java.io.IOException;
import java.nio.file.Files;
import java.nio.file.Path;
import java.util.TreeMap;

/** The document, cut into its sections: "Terms", "Terms 1" to "Terms 4", "Promise 1" to "Promise 37", and others. */
final class Document {
    private static final TreeMap<String, String> SECTIONS = read(Path.of("../shared/DOC.md"));

    private Document() {
    }

    /** A section's words, with one blank between any two; empty if there is no such section. */
    static String section(String name) {
        return SECTIONS.getOrDefault(name, "");
    }

    private static TreeMap<String, String> read(Path path) {
        TreeMap<String, String> sections = new TreeMap<>();
        String name = "";
        try {
            for (String line : Files.readAllLines(path)) {
                String words = line;
                if (line.startsWith("## ")) {
                    name = line.substring(3).replaceAll(":.*", "");
                    words = "";
                } else if (line.startsWith("======== ")) {
                    name = "Terms " + line.charAt(9);
                    words = line.substring(10);
                } else if (line.startsWith("```") || line.startsWith("Ahead of the calls")) {
                    words = "";
                }
                sections.merge(name, words, (before, more) -> (before + " " + more).replaceAll("\\s+", " ").strip());
            }
        } catch (IOException missing) {
            throw new IllegalStateException("the document cannot be read", missing);
        }
        return sections;
    }
}
