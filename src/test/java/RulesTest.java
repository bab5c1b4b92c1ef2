import java.io.IOException;
import java.lang.reflect.Field;
import java.lang.reflect.Method;
import java.lang.reflect.Modifier;
import java.nio.file.Files;
import java.nio.file.Path;
import java.util.ArrayList;
import java.util.List;
import java.util.Map;
import java.util.Set;
import java.util.TreeMap;
import java.util.regex.Matcher;
import java.util.regex.Pattern;

/** The class keeps to those rules of LANGUAGE.md that can be seen by its text and its members. */
public final class RulesTest {
    private static final Check CHECK = new Check("rules");
    private static final Set<String> IMPORTS = Set.of("java.util.ArrayList", "java.util.Arrays", "java.util.Iterator",
            "java.util.List", "java.util.NoSuchElementException");
    private static final Set<String> LIBRARY = Set.of("System.arraycopy", "Arrays.copyOf", "Arrays.copyOfRange",
            "Arrays.fill", "List.of");
    private static final Set<String> THROWN = Set.of("IllegalStateException", "IllegalArgumentException",
            "IndexOutOfBoundsException", "ArithmeticException", "UnsupportedOperationException",
            "NoSuchElementException", "RuntimeException");
    private static final int MOST_LINES = 60;
    private static final int MOST_PARAMETERS = 7;
    private static final int MOST_CLASSES = 12;
    private static final int MOST_FIELDS = 20;
    private static final int MOST_CALLS = 8;

    public static void main(String[] args) throws IOException {
        String whole = Files.readString(Path.of("src/main/java/CartPaths.java"));
        String code = withoutTexts(whole);
        words(code);
        library(code);
        exceptions(code);
        staticFields();
        sizes(code);
        depths(code);
        texts(whole);
        CHECK.close();
    }

    /** The code without comments and without what stands in texts and signs. */
    private static String withoutTexts(String whole) {
        return whole.replaceAll("(?s)/\\*.*?\\*/", "").replaceAll("//[^\\n]*", "")
                .replaceAll("\"(\\\\.|[^\"\\\\])*\"", "\"\"").replaceAll("'(\\\\.|[^'\\\\])'", "' '");
    }

    private static List<String> all(String code, String form) {
        List<String> found = new ArrayList<>();
        Matcher matcher = Pattern.compile(form).matcher(code);
        while (matcher.find()) {
            found.add(matcher.group(matcher.groupCount()));
        }
        return found;
    }

    private static void none(String what, List<String> found) {
        CHECK.same(what + " " + found, found.size(), 0);
    }

    private static void words(String code) {
        none("no package", all(code, "(?m)^package.*"));
        none("no word that is left out of the language", all(code,
                "\\b(finally|synchronized|assert|volatile|transient|native|protected|yield|var)\\b"));
        none("no lambda, no method reference", all(code, "->|::"));
        none("no static block", all(code, "\\bstatic\\s*\\{"));
        none("no numbers with a point", all(code, "\\b(double|float|Double|Float)\\b"));
        none("no texts joined by +", all(code, "\"\"\\s*\\+|\\+\\s*\"\""));
        none("no rows of rows of objects", all(code, "\\b[A-Z]\\w*\\[\\]\\[\\]"));
        for (String name : all(code, "(?m)^import (.*);")) {
            CHECK.same("import of " + name, IMPORTS.contains(name) ? 1 : 0, 1);
        }
    }

    private static void library(String code) {
        for (String call : all(code, "\\b((?:System|Arrays|List|Objects|Collections|Character|Thread|Runtime)\\.\\w+)")) {
            CHECK.same("call of " + call, LIBRARY.contains(call) ? 1 : 0, 1);
        }
        none("no exact functions", all(code, "\\b(?:Math|Integer|Long)\\.\\w+Exact\\b"));
        none("no functions of the machine", all(code, "\\.(getClass|hashCode|toString|format|split|printStackTrace)\\("));
    }

    private static void exceptions(String code) {
        List<String> thrown = all(code, "\\bthrow new (\\w+)\\(\"?\"?\\);");
        CHECK.same("every throw makes its exception", thrown.size(), all(code, "\\bthrow\\b").size());
        for (String name : thrown) {
            CHECK.same("throw of " + name, THROWN.contains(name) ? 1 : 0, 1);
        }
        none("nothing of the machine's own is caught", all(code, "catch\\s*\\([^)]*\\b(Throwable|Exception|Error|"
                + "RuntimeException|\\w*IndexOutOfBoundsException|NullPointerException|ArithmeticException|"
                + "ClassCastException|NegativeArraySizeException|ArrayStoreException|StackOverflowError)\\b"));
    }

    private static List<Class<?>> classes() {
        List<Class<?>> all = new ArrayList<>(List.of(CartPaths.class.getDeclaredClasses()));
        all.add(CartPaths.class);
        return all;
    }

    private static void staticFields() {
        for (Class<?> each : classes()) {
            for (Field field : each.getDeclaredFields()) {
                boolean isStatic = Modifier.isStatic(field.getModifiers());
                CHECK.same(field + " is final, if it is static",
                        !isStatic || Modifier.isFinal(field.getModifiers()) ? 1 : 0, 1);
            }
        }
    }

    private static void sizes(String code) {
        CHECK.same("few classes", classes().size() <= MOST_CLASSES ? 1 : 0, 1);
        for (Class<?> each : classes()) {
            int fields = 0;
            for (Field field : each.getDeclaredFields()) {
                fields += Modifier.isStatic(field.getModifiers()) ? 0 : 1;
            }
            CHECK.same("few fields of " + each + ": " + fields, fields <= MOST_FIELDS ? 1 : 0, 1);
            for (Method method : each.getDeclaredMethods()) {
                CHECK.same("few parameters of " + method, method.getParameterCount() <= MOST_PARAMETERS ? 1 : 0, 1);
            }
        }
        List<String> bodies = all(code, "(?ms)^ {4}(?:public|private)[^;=]*?\\{\\n(.*?)^ {4}\\}$");
        bodies.removeIf(body -> body.contains("    private "));
        bodies.addAll(all(code, "(?ms)^ {8}private[^;=]*?\\{\\n(.*?)^ {8}\\}$"));
        CHECK.same("methods are found", bodies.size() > 100 ? 1 : 0, 1);
        for (String body : bodies) {
            CHECK.same("a short method: " + body, body.lines().count() <= MOST_LINES ? 1 : 0, 1);
        }
    }

    /** No call goes deeper than told, none calls itself; methods of one name count as one that calls what all call. */
    private static void depths(String code) {
        Map<String, String> bodies = new TreeMap<>();
        for (String indent : List.of(" {4}", " {8}")) {
            Matcher matcher = Pattern.compile("(?ms)^" + indent + "(?:public|private)(?: static)? [\\w\\[\\]]+ (\\w+)"
                    + "\\([^;{]*\\{\\n(.*?)^" + indent + "\\}$").matcher(code);
            while (matcher.find()) {
                bodies.merge(matcher.group(1), matcher.group(2), String::concat);
            }
        }
        CHECK.same("methods are found by name", bodies.size() > 100 ? 1 : 0, 1);
        for (String name : bodies.keySet()) {
            CHECK.same("calls open at once from " + name + " on, no more than told",
                    depth(bodies, name, MOST_CALLS) <= MOST_CALLS ? 1 : 0, 1);
        }
    }

    /** How many calls stand open at once; one more than are left, if there are more. */
    private static int depth(Map<String, String> bodies, String name, int left) {
        int deepest = 0;
        for (String called : left == 0 ? List.<String>of() : all(bodies.get(name), "\\b(\\w+)\\(")) {
            deepest = bodies.containsKey(called) ? Math.max(deepest, depth(bodies, called, left - 1)) : deepest;
        }
        return deepest + 1;
    }

    private static void texts(String whole) {
        none("signs 1 to 127 alone", all(whole, "[^\\x01-\\x7f]"));
    }
}
