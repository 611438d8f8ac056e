import java.io.IOException;
import java.lang.reflect.Method;
import java.lang.reflect.Modifier;
import java.nio.charset.StandardCharsets;
import java.nio.file.Files;
import java.nio.file.Path;
import java.util.Arrays;
import java.util.Comparator;
import java.util.List;
import java.util.regex.Matcher;
import java.util.regex.Pattern;
import java.util.stream.Stream;

/** What README.md tells holds when it is done as written there, in a folder with nothing but links to src and ../shared. */
public final class ReadmeTest {
    private static final Path PAGE = Path.of("README.md");
    private static final String TESTS_OF_ALL = "bash .ci/run\n";

    private ReadmeTest() {
    }

    public static void main(String[] args) throws Exception {
        String page = Files.readString(PAGE, StandardCharsets.UTF_8);
        Path root = Files.createTempDirectory("readme");
        try {
            Path folder = Files.createDirectory(root.resolve("main"));
            Files.createSymbolicLink(root.resolve("shared"), Path.of("../shared").toRealPath());
            Files.createSymbolicLink(folder.resolve("src"), Path.of("src").toRealPath());
            checkExample(page, folder);
            checkCommands(page, folder);
        } finally {
            remove(root);
        }
        checkNames(page);
        checkRefusals();
        Check.finish("ReadmeTest");
    }

    private static void checkExample(String page, Path folder) throws Exception {
        List<String> programs = blocks(page, "java");
        List<String> printed = blocks(page, "text");
        Check.due("programs on the page", programs.size(), 1);
        Check.due("what it prints", printed.size(), 1);
        Files.writeString(folder.resolve("Example.java"), programs.get(0));
        String got = run(blocks(page, "sh").get(0), folder);
        Check.due("the program prints what the page says, not\n" + got, got.equals(printed.get(0)) ? 1 : 0, 1);
    }

    /** All commands but the run that this test is a part of. */
    private static void checkCommands(String page, Path folder) throws Exception {
        List<String> commands = blocks(page, "sh");
        Check.due("commands on the page", commands.size(), 3);
        Check.due("one runs all tests: " + commands.get(1), commands.get(1).equals(TESTS_OF_ALL) ? 1 : 0, 1);
        Check.due("that is there", Files.isExecutable(Path.of(".ci/run")) ? 1 : 0, 1);
        String got = run(commands.get(2), folder);
        Check.due("tests by themselves:\n" + got, got.contains("WhatIfTest: ") && got.contains("ModelTest: ") ? 1 : 0, 1);
    }

    private static void checkNames(String page) throws IOException {
        for (Method m : ValueDays.class.getDeclaredMethods()) {
            if (Modifier.isPublic(m.getModifiers())) {
                Check.due("the page names " + m.getName(), page.contains("`" + m.getName() + "`") ? 1 : 0, 1);
            }
        }
        try (Stream<Path> files = Files.list(Path.of("src/test/java"))) {
            for (Path file : files.sorted().toList()) {
                String name = file.getFileName().toString().replace(".java", "");
                boolean named = !name.endsWith("Test") || page.contains("`" + name + "`");
                Check.due("the page names " + name, named ? 1 : 0, 1);
            }
        }
        Matcher named = Pattern.compile("`(\\w+Test)`").matcher(page);
        while (named.find()) {
            boolean there = Files.exists(Path.of("src/test/java", named.group(1) + ".java"));
            Check.due("a test that the page names: " + named.group(1), there ? 1 : 0, 1);
        }
    }

    /** What the page says of answers where there are none such: here without a book, by numbers that nothing has. */
    private static void checkRefusals() throws Exception {
        List<String> toldByNone = List.of("end", "fault", "count", "rate", "owing", "compounds");
        for (Method m : ValueDays.class.getDeclaredMethods()) {
            if (!Modifier.isPublic(m.getModifiers()) || List.of("feed", "book").contains(m.getName())) {
                continue;
            }
            Object[] numbers = new Object[m.getParameterCount()];
            Arrays.fill(numbers, Integer.MAX_VALUE);
            long want = m.getReturnType() == long.class ? Check.NO_SUCH : toldByNone.contains(m.getName()) ? -1 : -2;
            Check.due(m.getName() + " where there are none such", ((Number) m.invoke(new ValueDays(), numbers)).longValue(), want);
        }
        ValueDays x = new ValueDays();
        for (int i = 0; i < 45; i++) {
            x.feed(0, 0, 0, 0, 0);
        }
        Check.due("feed on a full tape", x.feed(0, 0, 0, 0, 0), -1);
        Check.due("book of a faulty text", x.book(), -4);
        Check.due("an image that has nothing", x.back(0), -6);
        ValueDays told = Check.told("book days 2 periods 1 compound 1;close;");
        Check.due("an act that can't be done now", told.pay(0, 1), -5);
        Check.due("none to take back", told.undo(), -5);
    }

    private static List<String> blocks(String page, String kind) {
        Matcher found = Pattern.compile("\n```" + kind + "\n(.*?\n)```\n", Pattern.DOTALL).matcher(page);
        return found.results().map(block -> block.group(1)).toList();
    }

    private static String run(String commands, Path folder) throws Exception {
        Process shell = new ProcessBuilder("bash", "-e", "-c", commands).directory(folder.toFile()).redirectErrorStream(true).start();
        shell.getOutputStream().close();
        String printed = new String(shell.getInputStream().readAllBytes(), StandardCharsets.UTF_8);
        Check.due("exit code of\n" + commands + printed, shell.waitFor(), 0);
        return printed;
    }

    /** Links are removed, not what they lead to. */
    private static void remove(Path root) throws IOException {
        try (Stream<Path> files = Files.walk(root)) {
            for (Path file : files.sorted(Comparator.reverseOrder()).toList()) {
                Files.delete(file);
            }
        }
    }
}
