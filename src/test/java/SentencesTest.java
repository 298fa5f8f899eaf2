import java.io.IOException;
import java.nio.file.Files;
import java.nio.file.Path;
import java.util.LinkedHashMap;
import java.util.List;
import java.util.Map;
import java.util.regex.Matcher;
import java.util.regex.Pattern;
import java.util.stream.Collectors;
import java.util.stream.Stream;

/** Every word of the terms and of the promises stands in a sentence that an Edge test says it holds. */
public final class SentencesTest {
    private static final Pattern SAYS = Pattern.compile("says\\(\"([^\"]*)\",\\s*\"([^\"]*)\"\\)");

    public static void main(String[] args) throws IOException {
        Map<String, boolean[]> said = new LinkedHashMap<>();
        Document.sections().forEach((where, text) -> said.put(where, new boolean[text.length()]));
        Due.due("sections: the whole, two of terms, 45 promises", said.size(), 48);
        for (Path file : tests()) {
            Matcher m = SAYS.matcher(Files.readString(file));
            while (m.find()) {
                mark(said, m.group(1), m.group(2));
            }
        }
        Document.sections().forEach((where, text) -> Due.same(where + ": words that no test holds", left(text, said.get(where)), ""));
        Due.end();
    }

    private static List<Path> tests() throws IOException {
        try (Stream<Path> all = Files.list(Path.of("src/test/java"))) {
            return all.filter(f -> f.getFileName().toString().matches("Edge.*Test\\.java")).sorted().collect(Collectors.toList());
        }
    }

    private static void mark(Map<String, boolean[]> said, String where, String words) {
        String text = Document.sections().getOrDefault(where, "");
        boolean isThere = false;
        for (int at = text.indexOf(words); at >= 0; at = text.indexOf(words, at + 1)) {
            isThere = true;
            for (int i = 0; i < words.length(); i++) {
                said.get(where)[at + i] = true;
            }
        }
        Due.due(where + " \"" + words + "\" stands in the document", isThere ? 1 : 0, 1);
    }

    private static String left(String text, boolean[] said) {
        StringBuilder b = new StringBuilder();
        for (int i = 0; i < text.length(); i++) {
            b.append(said[i] ? ' ' : text.charAt(i));
        }
        return b.toString().replaceAll("\\s+", " ").trim();
    }
}
