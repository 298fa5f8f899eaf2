import java.lang.reflect.Constructor;
import java.lang.reflect.Field;
import java.lang.reflect.Method;
import java.lang.reflect.Modifier;
import java.util.Arrays;
import java.util.List;
import java.util.TreeSet;

/** The face: the document's constants, constructor and methods, and no other member that isn't private. */
public final class FaceTest {
    private static final List<String> METHODS = Arrays.asList(
        "int count(int)", "int feed(int,int,int,int,int,int)", "int text()", "int force(int)",
        "int asks(int,int,int)", "int knit(int,int,int)", "int row(int,int,int)", "int told(int,int)",
        "int pin(int,int)", "long hangs(int,int)", "long loose()", "int back(int)", "int run(int,int,int)",
        "long goes(int,int,int)", "int left(int,int,int)", "int most(int,int)", "int column(int,int,int)",
        "int line(int,int)", "int reach(int,int)", "int two(int,int)", "int all(int)", "int counts(int,int)",
        "int slip(int)", "int wrong()", "int pinned(int,int,int,int)", "int mending(int,int,int)",
        "int mend(int,int)", "int block()", "long seen()", "int slack(int,int)", "int judge(int,int,int)",
        "long which(int,int)", "int span(int,int,int)", "int laws(int,int,int)", "int film(int,int,int)",
        "int slips(int,int,int,int)", "long odds(int,int,int,int,int,int)", "int image()", "int restore()",
        "int sheet(int,int,int)", "int cell(int,int,int)", "int copy(int,int,int,int,int)",
        "int knits(int,int,int,int)", "int taken(int,int)");

    public static void main(String[] args) {
        Class<?> c = StitchLetFall.class;
        Due.due("public and final", Modifier.isPublic(c.getModifiers()) && Modifier.isFinal(c.getModifiers()) ? 1 : 0, 1);
        Due.due("NONE", StitchLetFall.NONE, -1);
        Due.due("BAD", StitchLetFall.BAD, -2);
        Due.due("STATE", StitchLetFall.STATE, -3);
        Due.due("FULL", StitchLetFall.FULL, -4);
        Due.due("NO", StitchLetFall.NO, -4611686018427387904L);
        TreeSet<String> open = new TreeSet<>();
        TreeSet<String> hidden = new TreeSet<>();
        for (Method m : c.getDeclaredMethods()) {
            if (!Modifier.isPrivate(m.getModifiers()) && !m.isSynthetic()) {
                boolean isPlain = m.getModifiers() == Modifier.PUBLIC;
                open.add((isPlain ? "" : "odd ") + told(m));
            } else {
                hidden.add(m.getName());
            }
        }
        Due.same("the public methods", open, new TreeSet<>(METHODS));
        for (Class<?> inner : c.getDeclaredClasses()) {
            Due.due(inner + " is static", Modifier.isStatic(inner.getModifiers()) ? 1 : 0, 1);
            for (Method m : inner.getDeclaredMethods()) {
                hidden.add(m.getName());
            }
        }
        for (Method m : c.getDeclaredMethods()) {
            if (Modifier.isPublic(m.getModifiers())) {
                Due.due("a private method named " + m.getName(), hidden.contains(m.getName()) ? 1 : 0, 0);
            }
        }
        TreeSet<String> fields = new TreeSet<>();
        for (Field f : c.getDeclaredFields()) {
            if (!Modifier.isPrivate(f.getModifiers()) && !f.isSynthetic()) {
                fields.add(f.getName());
            }
        }
        Due.same("the public constants", fields, new TreeSet<>(Arrays.asList("NONE", "BAD", "STATE", "FULL", "NO")));
        Constructor<?>[] made = c.getDeclaredConstructors();
        Due.due("one constructor", made.length, 1);
        Due.due("without parameters, public", made[0].getParameterCount() == 0 && Modifier.isPublic(made[0].getModifiers()) ? 1 : 0, 1);
        Due.end();
    }

    private static String told(Method m) {
        StringBuilder b = new StringBuilder();
        b.append(m.getReturnType().getName()).append(' ').append(m.getName()).append('(');
        for (int i = 0; i < m.getParameterCount(); i++) {
            b.append(i > 0 ? "," : "").append(m.getParameterTypes()[i].getName());
        }
        return b.append(')').toString();
    }
}
