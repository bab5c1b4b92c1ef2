import java.io.IOException;
import java.lang.reflect.Modifier;
import java.net.URL;
import java.net.URLClassLoader;
import java.nio.file.Files;
import java.nio.file.Path;
import java.util.ArrayList;
import java.util.Comparator;
import java.util.List;
import java.util.TreeSet;
import java.util.regex.Matcher;
import java.util.regex.Pattern;
import java.util.stream.Stream;
import javax.tools.JavaCompiler;
import javax.tools.ToolProvider;

/** README.md's example is compiled and run as it stands there: what it says of an answer is what the class answers. */
public final class ReadmeTest {
    private static final Path README = Path.of("README.md");
    private static final Path TESTS = Path.of("src/test/java");
    private static final String EXAMPLE = "ReadmeExample";
    private static final Pattern BLOCK = Pattern.compile("(?ms)^```java\\n(.*?)^```$");
    /** A statement, its answer, and what is said of that. */
    private static final Pattern SAID = Pattern.compile("(.*);\\s*// (-?[0-9.]+|true|false|throws \\w+|'.')(?:: .*)?");
    private static final Pattern VARIABLE = Pattern.compile("(?:int|char|float|boolean) (\\w+) = .*");
    private static final int FEWEST_ANSWERS = 30;

    private static final Check CHECK = new Check("readme");

    public static void main(String[] args) throws IOException, ReflectiveOperationException {
        String readme = Files.readString(README);
        List<String> blocks = blocks(readme);
        String source = source(blocks);
        for (String[] each : answers(source)) {
            CHECK.same(each[0], each[1], each[2]);
        }
        badExamplesAreFound();
        everyClassIsTold(readme);
        everyTestIsTold(readme);
        CHECK.close();
    }

    private static List<String> blocks(String readme) {
        List<String> blocks = new ArrayList<>();
        Matcher matcher = BLOCK.matcher(readme);
        while (matcher.find()) {
            blocks.add(matcher.group(1));
        }
        CHECK.same("blocks that begin are blocks that are found", blocks.size(), readme.split("```java", -1).length - 1);
        return blocks;
    }

    /** A class whose method run answers, for each line that says an answer: the line, the answer, what is said. */
    private static String source(List<String> blocks) {
        StringBuilder methods = new StringBuilder();
        StringBuilder body = new StringBuilder();
        int said = 0;
        for (String block : blocks) {
            if (isMethod(block)) {
                methods.append(block);
            } else {
                for (String line : block.split("\\n")) {
                    said += line.contains("// ") ? 1 : 0;
                    body.append(looked(line));
                }
            }
        }
        CHECK.same("the example says many answers: " + said, said >= FEWEST_ANSWERS ? 1 : 0, 1);
        return classOf(methods.toString(), body.toString());
    }

    private static boolean isMethod(String block) {
        return block.startsWith("/**") || block.startsWith("static ");
    }

    private static String classOf(String methods, String body) {
        return "public final class " + EXAMPLE + " {\n" + methods
                + "public static java.util.List<String[]> run() {\n"
                + "java.util.List<String[]> said = new java.util.ArrayList<>();\n" + body + "return said;\n}\n}\n";
    }

    /** The line as code, and a look at its answer; a remark must begin with one. */
    private static String looked(String line) {
        if (!line.contains("// ")) {
            return line + "\n";
        }
        Matcher matcher = SAID.matcher(line.strip());
        if (!matcher.matches()) {
            CHECK.same("README: " + line, "a remark", "an answer");
            return line + "\n";
        }
        String code = matcher.group(1);
        String due = matcher.group(2).replace("'", "");
        if (due.startsWith("throws ")) {
            return "try { " + code + "; " + add(line, "\"nothing\"", due) + " } catch (RuntimeException e) { "
                    + add(line, "\"throws \" + e.getClass().getSimpleName()", due) + " }\n";
        }
        Matcher variable = VARIABLE.matcher(code);
        return variable.matches() ? code + ";\n" + add(line, variable.group(1), due) + "\n"
                : add(line, code, due) + "\n";
    }

    private static String add(String line, String got, String due) {
        return "said.add(new String[] {" + quoted(line) + ", String.valueOf(" + got + "), " + quoted(due) + "});";
    }

    private static String quoted(String text) {
        return "\"" + text.replace("\\", "\\\\").replace("\"", "\\\"") + "\"";
    }

    @SuppressWarnings("unchecked")
    private static List<String[]> answers(String source) throws IOException, ReflectiveOperationException {
        Path directory = Files.createTempDirectory("readme");
        try {
            Path file = Files.writeString(directory.resolve(EXAMPLE + ".java"), source);
            JavaCompiler compiler = ToolProvider.getSystemJavaCompiler();
            int failed = compiler.run(null, null, null, "-d", directory.toString(),
                    "-cp", System.getProperty("java.class.path"), file.toString());
            CHECK.same("README's example compiles", failed, 0);
            if (failed != 0) {
                return List.of();
            }
            try (URLClassLoader loader = new URLClassLoader(new URL[] {directory.toUri().toURL()})) {
                return (List<String[]>) loader.loadClass(EXAMPLE).getMethod("run").invoke(null);
            }
        } finally {
            remove(directory);
        }
    }

    private static void remove(Path directory) throws IOException {
        try (Stream<Path> files = Files.walk(directory)) {
            for (Path each : files.sorted(Comparator.reverseOrder()).toList()) {
                Files.delete(each);
            }
        }
    }

    /** Lines that say a wrong answer must be told: else this test would be none. */
    private static void badExamplesAreFound() throws IOException, ReflectiveOperationException {
        String body = "CartPaths paths = new CartPaths();\n"
                + looked("int carts = paths.count(2);   // 1: wrong") + looked("paths.end(0);   // false")
                + looked("paths.cell(0, 0);   // throws IllegalStateException")
                + looked("paths.count(0);   // throws IllegalStateException");
        List<String[]> answers = answers(classOf("", body));
        CHECK.same("wrong lines", answers.size(), 4);
        for (String[] each : answers) {
            CHECK.same("a wrong line passes: " + each[0], each[1].equals(each[2]) ? 1 : 0, 0);
        }
    }

    private static void everyClassIsTold(String readme) {
        for (Class<?> inside : CartPaths.class.getDeclaredClasses()) {
            CHECK.same("README tells of the class " + inside.getSimpleName(),
                    readme.contains("`" + inside.getSimpleName() + "`") ? 1 : 0, 1);
        }
        for (java.lang.reflect.Method method : CartPaths.class.getDeclaredMethods()) {
            if (Modifier.isPublic(method.getModifiers())) {
                boolean told = readme.contains("`" + method.getName() + "`");
                CHECK.same("README tells of the call " + method.getName(), told ? 1 : 0, 1);
            }
        }
    }

    private static void everyTestIsTold(String readme) throws IOException {
        TreeSet<String> names = new TreeSet<>();
        try (Stream<Path> files = Files.list(TESTS)) {
            files.forEach(file -> names.add(file.getFileName().toString().replace(".java", "")));
        }
        for (String name : names) {
            CHECK.same("README tells of " + name, readme.contains("`" + name + "`") ? 1 : 0, 1);
        }
    }
}
