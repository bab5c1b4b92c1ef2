import java.lang.reflect.Constructor;
import java.lang.reflect.Field;
import java.lang.reflect.Method;
import java.lang.reflect.Modifier;
import java.util.Set;
import java.util.TreeSet;

/** The class has the document's face and shows nothing else. */
public final class FaceTest {
    private static final String[] FACE = {
        "int feed(int,int,int,int,int)", "boolean end(int)", "int read()", "int fault()", "int cell(int,int)",
        "int cart(int,int)", "int name(int,int)", "int tell(int,int,int)", "int goal(int,int,int)",
        "void change(int,int)", "int undo()", "int cost(int)", "int alone(int,int)", "int clash(int)",
        "int reach(int)", "int far(int,int,int,int)", "int plan(int,int)", "int node(int,int,int)",
        "int at(int,int,int)", "int move(int,int,int)", "int used(int,int,int,boolean)", "int busiest(int)",
        "int waits(int)", "int late(int,int,int,int,int)", "int worse(int)", "int who(int,int,int,int)",
        "int near(int,int,int,boolean)", "int without(int,int,int)", "int follows(int,int,int)",
        "int shared(int,int)", "int slack(int,int,int)", "int critical(int,int,boolean)", "int ended(int,int)",
        "int way(int,int,int)", "int again(int,int)", "int among(int)", "int byTurns(int)",
        "int turned(int,int,int)", "int bestOrder(boolean)", "int ordered(int,int)", "int write(int,int)",
        "int octet(int)", "int count(int)"};

    public static void main(String[] args) {
        Check check = new Check("face");
        Set<String> due = new TreeSet<>(Set.of(FACE));
        Set<String> names = new TreeSet<>();
        for (String each : FACE) {
            names.add(each.substring(each.indexOf(' ') + 1, each.indexOf('(')));
        }
        for (Method method : CartPaths.class.getDeclaredMethods()) {
            if (Modifier.isPrivate(method.getModifiers())) {
                check.same("private " + method.getName() + " bears a public name",
                        names.contains(method.getName()) ? 1 : 0, 0);
            } else {
                String signature = signature(method);
                check.same(signature + " is of the face and public",
                        due.remove(signature) && method.getModifiers() == Modifier.PUBLIC ? 1 : 0, 1);
            }
        }
        check.same("calls that are missing: " + due, due.size(), 0);
        check.same("the class is public and final",
                CartPaths.class.getModifiers(), Modifier.PUBLIC | Modifier.FINAL);
        for (Field field : CartPaths.class.getDeclaredFields()) {
            boolean none = field.getName().equals("NONE");
            check.same(field.getName() + " is private, or NONE",
                    Modifier.isPrivate(field.getModifiers()) != none ? 1 : 0, 1);
        }
        check.same("NONE", CartPaths.NONE, -1);
        Constructor<?>[] makers = CartPaths.class.getDeclaredConstructors();
        check.same("constructors", makers.length, 1);
        check.same("the constructor's parameters", makers[0].getParameterCount(), 0);
        check.same("the constructor is public", makers[0].getModifiers(), Modifier.PUBLIC);
        for (Class<?> inside : CartPaths.class.getDeclaredClasses()) {
            check.same(inside.getName() + " is static", Modifier.isStatic(inside.getModifiers()) ? 1 : 0, 1);
            for (Method method : inside.getDeclaredMethods()) {
                check.same(method + " bears a public name", names.contains(method.getName()) ? 1 : 0, 0);
            }
        }
        check.close();
    }

    private static String signature(Method method) {
        StringBuilder text = new StringBuilder();
        text.append(method.getReturnType().getName()).append(' ').append(method.getName()).append('(');
        for (Class<?> type : method.getParameterTypes()) {
            text.append(text.charAt(text.length() - 1) == '(' ? "" : ",").append(type.getName());
        }
        return text.append(')').toString();
    }
}
