import java.io.IOException;
import java.io.UncheckedIOException;
import java.nio.file.Files;
import java.nio.file.Path;
import java.util.LinkedHashMap;
import java.util.Map;

/** The document's text by its sections; run from the project's folder. */
final class Document {
    private static final Map<String, String> SECTIONS = read();

    private Document() {
    }

    /** "What it is", "Terms 1", "Terms 2", "Promise 1" to "Promise 45": each with one blank between its words. */
    static Map<String, String> sections() {
        return SECTIONS;
    }

    private static Map<String, String> read() {
        Map<String, String> sections = new LinkedHashMap<>();
        for (String part : text().split("\n## ")) {
            String title = part.substring(0, part.indexOf('\n'));
            String body = part.substring(part.indexOf('\n'));
            if (title.equals("What it is")) {
                sections.put(title, plain(body.substring(body.indexOf("An object is used"))));
            } else if (title.equals("Terms")) {
                int second = body.indexOf("======== 2 ");
                int behind = body.indexOf("Ahead of the calls");
                sections.put("Terms 1", plain(body.substring(body.indexOf("LOOPS 0"), second)));
                sections.put("Terms 2", plain(body.substring(body.indexOf("A RUN", second), behind)));
            } else if (title.startsWith("Promise")) {
                sections.put(title.substring(0, title.indexOf(':')), plain(body.substring(body.indexOf("`: ") + 3)));
            }
        }
        return sections;
    }

    private static String text() {
        try {
            return Files.readString(Path.of("../shared/DOC.md"));
        } catch (IOException e) {
            throw new UncheckedIOException(e);
        }
    }

    private static String plain(String body) {
        return body.replace("```text", " ").replace("```", " ").replaceAll("\\s+", " ").trim();
    }
}
