import java.io.IOException;
import java.lang.reflect.Method;
import java.lang.reflect.Modifier;
import java.net.URL;
import java.net.URLClassLoader;
import java.nio.charset.StandardCharsets;
import java.nio.file.Files;
import java.nio.file.Path;
import java.util.ArrayList;
import java.util.List;
import java.util.TreeSet;
import java.util.regex.Matcher;
import java.util.regex.Pattern;
import javax.tools.ToolProvider;

/** README.md tells how to use the class: its example is compiled and run, and each answer in it asked for. */
public final class KnotRopeReadme {
    private static final Pattern BLOCK = Pattern.compile("```java\n(.*?)```", Pattern.DOTALL);
    /** A call that stands alone in its line, with its answer behind it. */
    private static final Pattern ANSWERED = Pattern.compile("(?m)^((?:x\\.|tell\\().*\\));\\s*// (-?\\d+)\\b.*$");
    private static final Pattern CALL = Pattern.compile("`([a-z]+)`");

    private static int wrong = 0;

    private static void hold(boolean holds, String what) {
        if (!holds) {
            wrong++;
            System.out.println("does not hold: " + what);
        }
    }

    private static List<String> blocks(String readme) {
        List<String> found = new ArrayList<>();
        Matcher m = BLOCK.matcher(readme);
        while (m.find()) {
            found.add(m.group(1));
        }
        return found;
    }

    private static String asProgram(String helper, String example) {
        String asked = ANSWERED.matcher(example).replaceAll(m -> Matcher.quoteReplacement(
                "due(\"" + m.group(1).replace("\\", "\\\\").replace("\"", "\\\"") + "\", " + m.group(1) + ", " + m.group(2) + ");"));
        return "public final class Example {\n"
                + "static int wrong = 0;\n"
                + "static void due(String call, long got, long want) {\n"
                + "if (got != want) { wrong++; System.out.println(\"README: \" + call + \" answered \" + got + \", told is \" + want); }\n"
                + "}\n"
                + helper
                + "public static int run() {\n" + asked + "return wrong;\n}\n}\n";
    }

    private static void example(String readme) throws IOException, ReflectiveOperationException {
        List<String> blocks = blocks(readme);
        hold(blocks.size() == 2, "README.md has the helper and the example");
        if (blocks.size() != 2) {
            return;
        }
        long answers = ANSWERED.matcher(blocks.get(1)).results().count();
        long calls = Pattern.compile("(?m)^x\\.").matcher(blocks.get(1)).results().count();
        hold(answers >= calls && calls > 0, "each call of the example has its answer behind it");
        Path dir = Files.createTempDirectory("readme");
        Path file = dir.resolve("Example.java");
        Files.writeString(file, asProgram(blocks.get(0), blocks.get(1)));
        int refused = ToolProvider.getSystemJavaCompiler().run(null, null, null,
                "-cp", System.getProperty("java.class.path"), "-d", dir.toString(), file.toString());
        hold(refused == 0, "the example can be compiled");
        if (refused == 0) {
            try (URLClassLoader loader = new URLClassLoader(new URL[] {dir.toUri().toURL()})) {
                hold((int) loader.loadClass("Example").getMethod("run").invoke(null) == 0, "the example's answers");
            }
        }
        Files.deleteIfExists(dir.resolve("Example.class"));
        Files.delete(file);
        Files.delete(dir);
    }

    private static void table(String readme) {
        TreeSet<String> face = new TreeSet<>();
        for (Method m : KnotRope.class.getDeclaredMethods()) {
            if (Modifier.isPublic(m.getModifiers())) {
                face.add(m.getName());
            }
        }
        TreeSet<String> named = new TreeSet<>();
        int next = 1;
        for (String line : readme.split("\n")) {
            Matcher range = Pattern.compile("\\| (\\d+) \\.\\. (\\d+) \\|.*").matcher(line);
            if (!range.matches()) {
                continue;
            }
            hold(Integer.parseInt(range.group(1)) == next, "promises in their order at " + line);
            Matcher call = CALL.matcher(line);
            int told = next == 1 ? 1 : 0;
            for (; call.find(); told++) {
                hold(face.contains(call.group(1)), "there is a call " + call.group(1));
                hold(named.add(call.group(1)), call.group(1) + " is named once");
            }
            next = Integer.parseInt(range.group(2)) + 1;
            hold(next - Integer.parseInt(range.group(1)) == told, "a call for each promise at " + line);
        }
        hold(next == 61, "all promises are in the table");
        hold(named.equals(face), "all calls are in the table");
    }

    private static void tests(String readme) throws IOException {
        try (var files = Files.list(Path.of("src/test/java"))) {
            files.forEach(f -> {
                String name = f.getFileName().toString().replace(".java", "");
                hold(readme.contains("- `" + name + "`: "), "README.md tells of the test " + name);
            });
        }
        hold(readme.contains("`.ci/run`"), "README.md tells how to run the tests");
    }

    public static void main(String[] args) throws Exception {
        String readme = Files.readString(Path.of("README.md"), StandardCharsets.UTF_8);
        example(readme);
        table(readme);
        tests(readme);
        System.out.println(wrong == 0 ? "README.md holds" : wrong + " things of README.md do not hold");
        if (wrong != 0) {
            System.exit(1);
        }
    }
}
