import java.io.IOException;
import java.net.URL;
import java.net.URLClassLoader;
import java.nio.file.Files;
import java.nio.file.Path;
import java.util.ArrayList;
import java.util.List;
import java.util.regex.Matcher;
import java.util.regex.Pattern;
import java.util.stream.Stream;
import javax.tools.ToolProvider;

/** README.md held against the class and the folder: its calls answer what it says, and what it names is there. */
public final class ReadmeTest {
    private static final Path README = Path.of("README.md");
    private static final Path TESTS = Path.of("src/test/java");
    /** A call of the example, with what stands behind it: a number, or one of the constants. */
    private static final Pattern CALL = Pattern.compile("(int \\w+ = )?(x\\.\\w+\\(.*\\)); +// (-?\\d+|[A-Z]+)(: .*)?");
    private static int wrong;

    public static void main(String[] args) throws Exception {
        String text = Files.readString(README);
        Path folder = Files.createTempDirectory("readme");
        try {
            example(text, folder);
        } finally {
            clear(folder);
        }
        names(text);
        System.out.println(wrong == 0 ? "README.md is as it says" : wrong + " faults in README.md");
        if (wrong != 0) System.exit(1);
    }

    private static void holds(boolean is, String what) {
        if (!is) {
            wrong++;
            System.out.println("README.md: " + what);
        }
    }

    // ---- the example

    private static void example(String text, Path folder) throws Exception {
        Matcher block = Pattern.compile("(?s)```java\n(.*?)```").matcher(text);
        holds(block.find(), "there is no example");
        if (wrong > 0) return;
        List<String> asked = new ArrayList<>();
        Files.writeString(folder.resolve("Example.java"), program(block.group(1), asked));
        holds(asked.size() > 20, "only " + asked.size() + " calls tell what they answer");
        String classes = System.getProperty("java.class.path");
        int failed = ToolProvider.getSystemJavaCompiler().run(null, null, null,
            "-cp", classes, "-d", folder.toString(), folder.resolve("Example.java").toString());
        holds(failed == 0, "the example does not compile");
        if (failed != 0) return;
        try (URLClassLoader loader = new URLClassLoader(new URL[] {folder.toUri().toURL()})) {
            long[] answers = (long[]) loader.loadClass("Example").getMethod("answers").invoke(null);
            for (int i = 0; i < asked.size(); i++) {
                holds(answers[2 * i] == answers[2 * i + 1], asked.get(i) + " answers " + answers[2 * i]);
            }
        }
    }

    /** The example as a program that gathers each answer and what is due behind it. */
    private static String program(String block, List<String> asked) {
        StringBuilder s = new StringBuilder("public final class Example { public static long[] answers() {\n");
        s.append("java.util.List<Long> all = new java.util.ArrayList<>();\n");
        for (String line : block.split("\n")) {
            Matcher m = CALL.matcher(line.strip());
            if (!m.matches()) {
                holds(!line.strip().startsWith("x."), "what it answers is not told of: " + line);
                s.append(line).append('\n');
                continue;
            }
            asked.add(line.strip());
            boolean isConstant = Character.isLetter(m.group(3).charAt(0));
            String due = isConstant ? "WallWalkers." + m.group(3) : m.group(3);
            String kept = m.group(1) == null ? "" : m.group(1).replaceAll("int | = ", "");
            s.append(kept.isEmpty() ? "all.add((long) " + m.group(2) + ");\n"
                : "int " + kept + " = " + m.group(2) + "; all.add((long) " + kept + ");\n");
            s.append("all.add((long) ").append(due).append(");\n");
        }
        return s.append("return all.stream().mapToLong(Long::longValue).toArray(); } }\n").toString();
    }

    // ---- what it names

    private static void names(String text) throws IOException {
        Matcher quoted = Pattern.compile("`([^`\n]+)`").matcher(text.replaceAll("(?s)```.*?```", ""));
        while (quoted.find()) {
            String name = quoted.group(1);
            if (name.matches("[\\w./]*/[\\w.]+")) holds(Files.exists(Path.of(name)), "there is no " + name);
            else if (name.matches("\\w+\\.java")) holds(Files.exists(TESTS.resolve(name)), "there is no test " + name);
        }
        try (Stream<Path> files = Files.list(TESTS)) {
            for (Path file : files.toList()) {
                String name = file.getFileName().toString();
                holds(text.contains(name.endsWith("EdgesTest.java") ? "*EdgesTest.java" : name), name + " is not told of");
            }
        }
        holds(Files.isExecutable(Path.of(".ci/run")) && text.contains("bash .ci/run"), "how the tests are run is not told");
    }

    private static void clear(Path folder) throws IOException {
        try (Stream<Path> files = Files.list(folder)) {
            for (Path file : files.toList()) Files.delete(file);
        }
        Files.delete(folder);
    }
}
