import java.io.IOException;
import java.lang.reflect.Method;
import java.lang.reflect.Modifier;
import java.nio.file.Files;
import java.nio.file.Path;
import java.util.regex.Matcher;
import java.util.regex.Pattern;

/** README.md tells each call of the face, and its example answers as it says; run from the project's folder. */
public final class ReadmeTest {
    private static final String MADE = "StitchLetFall x = new StitchLetFall();";
    private static final String FED = "for (char c : law.toCharArray()) x.feed(1, c, 0, 0, 0, 0);";
    private static final Pattern LAW = Pattern.compile("String law = \"(.*)\";");
    private static final Pattern CALL = Pattern.compile("x\\.(\\w+)\\(([-0-9, ]*)\\);\\s*// (-?\\d+): .*");
    private static final Pattern TOLD = Pattern.compile("`(\\w+)\\(([\\w, ]*)\\)`");

    public static void main(String[] args) throws IOException {
        String page = Files.readString(Path.of("README.md"));
        for (String way : new String[] {"../shared/DOC.md", ".ci/run", "-5 no such", "-7 ", "-11 ", "-12 ", "-13 ", "-14 ", "-100 less"}) {
            Due.due("README.md tells " + way, page.contains(way) ? 1 : 0, 1);
        }
        calls(page);
        example(page);
        Due.end();
    }

    /** Each call stands in the table with as many parameters as it takes. */
    private static void calls(String page) {
        String table = page.substring(Math.max(0, page.indexOf("| --- |")));
        for (Method m : StitchLetFall.class.getDeclaredMethods()) {
            if (Modifier.isPublic(m.getModifiers())) {
                Due.due("parameters of " + m.getName() + " in README.md", parametersIn(table, m.getName()), m.getParameterCount());
            }
        }
    }

    private static int parametersIn(String table, String name) {
        Matcher m = TOLD.matcher(table);
        while (m.find()) {
            if (m.group(1).equals(name)) {
                return m.group(2).isEmpty() ? 0 : m.group(2).split(",").length;
            }
        }
        return -1;
    }

    private static void example(String page) {
        int from = page.indexOf("```java\n") + 8;
        int to = Math.max(from, page.indexOf("```", from));
        StitchLetFall x = new StitchLetFall();
        String law = "";
        int held = 0;
        for (String line : page.substring(from, to).split("\n")) {
            Matcher told = LAW.matcher(line);
            Matcher call = CALL.matcher(line);
            if (told.matches()) {
                law = told.group(1);
            } else if (line.equals(FED)) {
                Tell.feed(x, law);
            } else if (call.matches()) {
                Due.due("README.md: " + line, Calls.answer(x, call.group(1), numbers(call.group(2))), Long.parseLong(call.group(3)));
                held++;
            } else {
                Due.same("README.md's example", line, MADE);
            }
        }
        Due.due("answers in README.md's example", Math.min(held, 10), 10);
    }

    private static int[] numbers(String list) {
        String[] parts = list.isEmpty() ? new String[0] : list.split(", *");
        int[] a = new int[parts.length];
        for (int i = 0; i < a.length; i++) {
            a[i] = Integer.parseInt(parts[i]);
        }
        return a;
    }
}
