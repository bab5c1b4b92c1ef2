import java.io.IOException;
import java.lang.reflect.Constructor;
import java.lang.reflect.Field;
import java.lang.reflect.Method;
import java.lang.reflect.Modifier;
import java.nio.file.Files;
import java.nio.file.Path;
import java.util.ArrayList;
import java.util.List;
import java.util.Set;
import java.util.StringJoiner;
import java.util.TreeSet;
import java.util.regex.Matcher;
import java.util.regex.Pattern;

/** The class has the document's face and shows nothing else. */
public final class FaceTest {
    private static final Check CHECK = new Check("face");
    private static final int CALLS = 43;

    public static void main(String[] args) throws IOException {
        List<String> due = faceOfDocument();
        List<String> told = declared(Files.readString(Path.of("src/main/java/CartPaths.java")), " = -1| \\{");
        CHECK.same("the document's face, words and throws and order too", told.toString(), due.toString());
        CHECK.same("the document tells a constant, a constructor and its calls", due.size(), 2 + CALLS);
        lookAtMethods(due);
        lookAtOthers();
        lookInside(names(due));
        CHECK.close();
    }

    private static List<String> faceOfDocument() throws IOException {
        String document = Files.readString(Path.of("../shared/DOC.md"));
        String face = document.substring(document.indexOf("public final class CartPaths {"));
        return declared(face.substring(0, face.indexOf("```")), " = -1;|;");
    }

    /** All that a class declares as public, one line each, without what stands behind the declaration. */
    private static List<String> declared(String code, String behind) {
        List<String> all = new ArrayList<>();
        Matcher matcher = Pattern.compile("(?ms)^    (public [^;{}]*?)(?:" + behind + ")").matcher(code);
        while (matcher.find()) {
            all.add(matcher.group(1).replaceAll("\\s+", " "));
        }
        return all;
    }

    private static Set<String> names(List<String> face) {
        Set<String> names = new TreeSet<>();
        for (String each : face) {
            if (each.contains("(")) {
                names.add(each.substring(0, each.indexOf('(')).replaceAll(".* ", ""));
            }
        }
        return names;
    }

    /** The members that the machine sees are those that the text shows. */
    private static void lookAtMethods(List<String> face) {
        Set<String> due = new TreeSet<>();
        for (String each : face) {
            due.add(each.replaceAll("(int|boolean) \\w+(?=[,)])", "$1").replace("throws ", ""));
        }
        int calls = 0;
        for (Method method : CartPaths.class.getDeclaredMethods()) {
            if (Modifier.isPrivate(method.getModifiers())) {
                CHECK.same("private " + method.getName() + " bears a public name",
                        names(face).contains(method.getName()) ? 1 : 0, 0);
            } else {
                calls++;
                CHECK.same(signature(method) + " is of the face", due.contains(signature(method)) ? 1 : 0, 1);
                CHECK.same(method + " is public, and no more", method.getModifiers(), Modifier.PUBLIC);
            }
        }
        CHECK.same("calls", calls, CALLS);
    }

    private static String signature(Method method) {
        StringJoiner parameters = new StringJoiner(", ", "(", ")");
        for (Class<?> type : method.getParameterTypes()) {
            parameters.add(type.getSimpleName());
        }
        StringJoiner thrown = new StringJoiner(", ", " ", "").setEmptyValue("");
        for (Class<?> type : method.getExceptionTypes()) {
            thrown.add(type.getSimpleName());
        }
        return "public " + method.getReturnType().getSimpleName() + " " + method.getName() + parameters + thrown;
    }

    private static void lookAtOthers() {
        CHECK.same("the class is public and final",
                CartPaths.class.getModifiers(), Modifier.PUBLIC | Modifier.FINAL);
        for (Field field : CartPaths.class.getDeclaredFields()) {
            boolean none = field.getName().equals("NONE");
            CHECK.same(field.getName() + " is private, or NONE",
                    Modifier.isPrivate(field.getModifiers()) != none ? 1 : 0, 1);
        }
        CHECK.same("NONE", CartPaths.NONE, -1);
        Constructor<?>[] makers = CartPaths.class.getDeclaredConstructors();
        CHECK.same("constructors", makers.length, 1);
        CHECK.same("the constructor's parameters", makers[0].getParameterCount(), 0);
        CHECK.same("the constructor is public", makers[0].getModifiers(), Modifier.PUBLIC);
    }

    private static void lookInside(Set<String> names) {
        for (Class<?> inside : CartPaths.class.getDeclaredClasses()) {
            CHECK.same(inside.getName() + " is static", Modifier.isStatic(inside.getModifiers()) ? 1 : 0, 1);
            for (Method method : inside.getDeclaredMethods()) {
                CHECK.same(method + " bears a public name", names.contains(method.getName()) ? 1 : 0, 0);
            }
        }
    }
}
