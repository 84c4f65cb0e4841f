import java.io.IOException;
import java.nio.file.Files;
import java.nio.file.Path;

/** The document's words by sections, so that a test can name the sentence that it is for. */
final class Document {
    private static final Path PATH = Path.of("..", "shared", "DOC.md");

    private final String[] sections;

    Document() {
        sections = read().replace("```text", " ").replace("```", " ").split("\n## ");
        for (int i = 0; i < sections.length; i++) {
            sections[i] = plain(sections[i]);
        }
    }

    private static String read() {
        try {
            return Files.readString(PATH);
        } catch (IOException e) {
            throw new IllegalStateException("there is no " + PATH, e);
        }
    }

    private static String plain(String text) {
        return text.replaceAll("\\s+", " ").trim();
    }

    /** A section is named by how its heading begins, up to a : or its end. */
    boolean says(String section, String words) {
        for (String one : sections) {
            boolean named = one.startsWith(section + ":") || one.startsWith(section + " ");
            if (named && one.contains(plain(words))) {
                return true;
            }
        }
        return false;
    }
}
