import java.lang.reflect.Constructor;
import java.lang.reflect.Field;
import java.lang.reflect.Method;
import java.lang.reflect.Modifier;
import java.nio.file.Files;
import java.nio.file.Path;
import java.util.ArrayList;
import java.util.List;
import java.util.TreeSet;

/** The class has the document's face and no other visible member. */
public final class FaceTest {
    public static void main(String[] args) throws Exception {
        TreeSet<String> want = new TreeSet<>();
        TreeSet<String> constants = new TreeSet<>();
        boolean inside = false;
        for (String line : Files.readAllLines(Path.of("../shared/DOC.md"))) {
            String text = line.trim();
            if (text.equals("```java")) {
                inside = true;
            } else if (text.equals("```")) {
                inside = false;
            } else if (inside && text.startsWith("public static final ")) {
                constants.add(text.split("[ =]+")[4]);
            } else if (inside && text.startsWith("public ") && text.contains("(") && !text.contains(" ValueDays(")) {
                want.add(signature(text));
            }
        }
        Check.due("methods in the document", want.size(), 64);
        TreeSet<String> got = new TreeSet<>();
        TreeSet<String> names = new TreeSet<>();
        List<String> hidden = new ArrayList<>();
        for (Method m : ValueDays.class.getDeclaredMethods()) {
            if (Modifier.isPublic(m.getModifiers())) {
                got.add(signature(m));
                names.add(m.getName());
            } else {
                Check.due("private " + m.getName(), Modifier.isPrivate(m.getModifiers()) ? 1 : 0, 1);
                hidden.add(m.getName());
            }
        }
        Check.due("methods as in the document: " + got, got.equals(want) ? 1 : 0, 1);
        for (String name : hidden) {
            Check.due("a private method with a public name: " + name, names.contains(name) ? 1 : 0, 0);
        }
        for (Class<?> inner : ValueDays.class.getDeclaredClasses()) {
            Check.due(inner.getName() + " static", Modifier.isStatic(inner.getModifiers()) ? 1 : 0, 1);
            for (Method m : inner.getDeclaredMethods()) {
                Check.due(inner.getName() + "." + m.getName(), names.contains(m.getName()) ? 1 : 0, 0);
                Check.due(m.getName() + " parameters", m.getParameterCount() <= 7 ? 1 : 0, 1);
            }
        }
        checkFields(constants);
        Constructor<?>[] made = ValueDays.class.getDeclaredConstructors();
        Check.due("constructors", made.length, 1);
        Check.due("constructor's parameters", made[0].getParameterCount(), 0);
        Check.due("public and final", ValueDays.class.getModifiers(), Modifier.PUBLIC | Modifier.FINAL);
        Check.due("NONE", ValueDays.NONE, -1);
        Check.due("NO_SUCH", ValueDays.NO_SUCH, Long.MIN_VALUE);
        Check.finish("FaceTest");
    }

    private static void checkFields(TreeSet<String> constants) {
        for (Field f : ValueDays.class.getDeclaredFields()) {
            boolean visible = !Modifier.isPrivate(f.getModifiers());
            Check.due("visible field " + f.getName(), visible ? 1 : 0, constants.contains(f.getName()) ? 1 : 0);
        }
    }

    private static String signature(String text) {
        String[] words = text.replace("public ", "").replaceAll("[(),;]", " ").trim().split(" +");
        StringBuilder b = new StringBuilder(words[0]).append(' ').append(words[1]);
        for (int i = 2; i < words.length; i += 2) {
            b.append(' ').append(words[i]);
        }
        return b.toString();
    }

    private static String signature(Method m) {
        StringBuilder b = new StringBuilder(m.getReturnType().getName()).append(' ').append(m.getName());
        for (Class<?> p : m.getParameterTypes()) {
            b.append(' ').append(p.getName());
        }
        return b.toString();
    }
}
