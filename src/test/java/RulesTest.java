import java.io.IOException;
import java.lang.reflect.Field;
import java.lang.reflect.Method;
import java.lang.reflect.Modifier;
import java.nio.file.Files;
import java.nio.file.Path;
import java.util.ArrayList;
import java.util.Arrays;
import java.util.List;
import java.util.TreeSet;
import java.util.regex.Matcher;
import java.util.regex.Pattern;

/** What of ../shared/LANGUAGE.md can be seen from the file's text alone; run from the project's folder. */
public final class RulesTest {
    private static final List<String> NOT_THERE = Arrays.asList(
        "\\bimport\\b", "\\bpackage\\b", "\\bthrows?\\b", "\\btry\\b", "\\bcatch\\b", "\\bsynchronized\\b", "\\bassert\\b",
        "->", "::", "\\bprotected\\b", "\\bdouble\\b", "\\bfloat\\b", "\\bstatic\\s*\\{", "Exact\\b", "\\bThread\\b", "@",
        "\\binstanceof\\b", "\\bRandom\\b", "\\bObject\\b", "\\bhashCode\\b", "\\btoString\\b", "\\bwhile\\b", "[^\\x00-\\x7f]");
    private static final List<String> LIBRARY = Arrays.asList(
        "Long.bitCount", "Long.numberOfTrailingZeros", "Integer.bitCount", "Math.max", "Math.min", "System.arraycopy");

    public static void main(String[] args) throws IOException {
        String all = Files.readString(Path.of("src/main/java/StitchLetFall.java"));
        String code = all.replaceAll("/\\*(?s:.*?)\\*/", "").replaceAll("//.*", "").replaceAll("\"[^\"]*\"", "\"\"");
        for (String word : NOT_THERE) {
            Due.due("rule 6: " + word, count(code, word), 0);
        }
        TreeSet<String> used = new TreeSet<>();
        Matcher m = Pattern.compile("\\b(Long|Integer|Math|System|String|Arrays)\\.\\w+").matcher(code);
        while (m.find()) {
            used.add(m.group());
        }
        used.removeAll(LIBRARY);
        Due.same("rule 4: the library", used, new TreeSet<String>());
        Due.due("rule 11: at most twelve classes", Math.max(12, count(code, "\\bclass\\b")), 12);
        Due.due("rule 12: nothing is made but with the object", count(methodsOnly(code), "\\bnew\\b"), 0);
        lengths(all);
        members(StitchLetFall.class);
        for (Class<?> inner : StitchLetFall.class.getDeclaredClasses()) {
            Due.due("rule 1: " + inner + " is private and static", inner.getModifiers() & ~Modifier.FINAL, Modifier.PRIVATE | Modifier.STATIC);
            Due.due("rule 2: " + inner + " has no class inside", inner.getDeclaredClasses().length, 0);
            members(inner);
        }
        Due.end();
    }

    /** What a class has: its fields and what its methods take. */
    private static void members(Class<?> c) {
        int own = 0;
        for (Field f : c.getDeclaredFields()) {
            boolean isStatic = Modifier.isStatic(f.getModifiers());
            own += isStatic ? 0 : 1;
            Class<?> type = f.getType();
            if (isStatic) {
                boolean isConstant = Modifier.isFinal(f.getModifiers()) && (type == int.class || type == long.class || type == String.class);
                Due.due("rule 5: " + f + " is a constant", isConstant ? 1 : 0, 1);
            } else {
                Class<?> each = type.isArray() ? type.getComponentType() : type;
                boolean isOwn = each.getName().startsWith("StitchLetFall");
                boolean isNumber = each == int.class || each == long.class || each == boolean.class;
                Due.due("rule 3: the type of " + f, isOwn || isNumber ? 1 : 0, 1);
            }
        }
        Due.due("rule 11: at most twenty fields in " + c, Math.max(20, own), 20);
        for (Method m : c.getDeclaredMethods()) {
            Due.due("rule 11: at most seven parameters of " + m, Math.max(7, m.getParameterCount()), 7);
        }
    }

    private static int count(String code, String pattern) {
        Matcher m = Pattern.compile(pattern).matcher(code);
        int n = 0;
        while (m.find()) {
            n++;
        }
        return n;
    }

    /** All but the fields and the constructor. */
    private static String methodsOnly(String code) {
        StringBuilder b = new StringBuilder();
        boolean inConstructor = false;
        for (String line : code.split("\n")) {
            inConstructor |= line.contains("public StitchLetFall()");
            if (!inConstructor && !line.matches("\\s+private final .*;")) {
                b.append(line).append('\n');
            }
            inConstructor &= !line.equals("    }");
        }
        return b.toString();
    }

    private static void lengths(String all) {
        List<String> long60 = new ArrayList<>();
        int start = 0;
        String name = "";
        String[] lines = all.split("\n");
        for (int i = 0; i < lines.length; i++) {
            if (lines[i].matches("( {4}| {8})(public|private) [^=;]*\\(.*\\{")) {
                start = i;
                name = lines[i].trim();
            } else if (lines[i].matches("( {4}| {8})\\}") && !name.isEmpty()) {
                if (i - start > 60) {
                    long60.add(name);
                }
                name = "";
            }
        }
        Due.same("rule 11: methods of more than sixty lines", long60, new ArrayList<String>());
    }
}
