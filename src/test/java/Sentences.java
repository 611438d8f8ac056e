import java.io.IOException;
import java.lang.reflect.Method;
import java.lang.reflect.Modifier;
import java.nio.charset.StandardCharsets;
import java.nio.file.Files;
import java.nio.file.Path;
import java.util.Arrays;
import java.util.Comparator;
import java.util.TreeMap;

/** Runs the tests of a class that bear words of the document, and finds words that no test bears. */
final class Sentences {
    private static final Path DOCUMENT = Path.of("../shared/DOC.md");

    private Sentences() {
    }

    static void run(Class<?> tests, String... sections) throws Exception {
        String document = Files.readString(DOCUMENT, StandardCharsets.UTF_8);
        TreeMap<String, String> open = new TreeMap<>();
        for (String section : sections) {
            open.put(section, sectionOf(document, section));
        }
        Method[] methods = tests.getDeclaredMethods();
        Arrays.sort(methods, Comparator.comparing(Method::getName));
        for (Method method : methods) {
            Says says = method.getAnnotation(Says.class);
            if (says == null) {
                continue;
            }
            Check.within(says.at() + ", " + method.getName() + ": ");
            String text = sectionOf(document, says.at());
            Check.due("the document says: " + says.text(), text.contains(says.text()) ? 1 : 0, 1);
            Check.due("a section of this file: " + says.at(), open.containsKey(says.at()) ? 1 : 0, 1);
            Check.due("a static method without parameters", Modifier.isStatic(method.getModifiers()) ? method.getParameterCount() : 1, 0);
            open.computeIfPresent(says.at(), (at, left) -> strikeOut(left, text, says.text()));
            method.setAccessible(true);
            int before = Check.asked();
            method.invoke(null);
            Check.due("asks something", Check.asked() > before ? 1 : 0, 1);
        }
        Check.within("");
        open.forEach((at, left) -> Check.due(at + ": no test bears: " + left.replaceAll(" +", " ").strip(), wordsIn(left), 0));
        Check.finish(tests.getName());
    }

    static String[] promises(int first, int last) {
        String[] numbers = new String[last - first + 1];
        for (int i = 0; i < numbers.length; i++) {
            numbers[i] = Integer.toString(first + i);
        }
        return numbers;
    }

    /** A section's text without its heading, the method's face, and what the page is set by. */
    private static String sectionOf(String document, String section) throws IOException {
        String text;
        if (Character.isDigit(section.charAt(0))) {
            text = between(document, "\n## Promise " + section + ":", "\n## ");
            text = text.substring(text.indexOf("`: ") + 3);
        } else if (section.startsWith("Terms ")) {
            text = between(document, "\n" + section.substring(6) + ". ", "\n(I|II|III|IV)\\. |\n## ");
        } else {
            text = between(document, "\n## " + section + "\n", "\n## ");
        }
        return text.replace("```text", " ").replace("```", " ").replaceAll("\\s+", " ");
    }

    private static String between(String document, String start, String behind) throws IOException {
        int first = document.indexOf(start);
        if (first < 0) {
            throw new IOException("the document has no" + start);
        }
        return document.substring(first + start.length()).split(behind)[0];
    }

    /** The words become blanks, wherever in the section they stand. */
    private static String strikeOut(String left, String text, String words) {
        StringBuilder struck = new StringBuilder(left);
        for (int at = text.indexOf(words); at >= 0; at = text.indexOf(words, at + 1)) {
            for (int i = at; i < at + words.length(); i++) {
                struck.setCharAt(i, ' ');
            }
        }
        return struck.toString();
    }

    private static long wordsIn(String text) {
        return text.chars().filter(Character::isLetterOrDigit).count();
    }
}
