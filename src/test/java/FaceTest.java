import java.lang.reflect.Constructor;
import java.lang.reflect.Field;
import java.lang.reflect.Method;
import java.lang.reflect.Modifier;
import java.util.Arrays;
import java.util.Set;
import java.util.TreeSet;

/** The public face: every member the document lists, and no other that can be seen from outside. */
public final class FaceTest {
    private static final String[] METHODS = {
        "boolean deposit(int, int)", "int place(int, int, int, int, int)", "boolean cancel(int, int)",
        "int amend(int, int, int)", "int open(int)", "int close(int)", "int indication(int, int)",
        "int best(int, int)", "int depth(int, int, int)", "int ahead(int)", "int left(int)", "int state(int)",
        "int trades()", "int trade(int, int)", "int position(int, int)", "long money(int)", "long owed(int)",
        "long risk(int)", "int settle()"};

    public static void main(String[] args) {
        constants();
        methods();
        shape();
        Check.end();
    }

    private static void constants() {
        Check.due("BAD", CallMarket.BAD, -1);
        Check.due("FULL", CallMarket.FULL, -2);
        Check.due("PHASE", CallMarket.PHASE, -3);
        Check.due("RISK", CallMarket.RISK, -4);
        Check.due("REFUSED", CallMarket.REFUSED, -5);
        Check.due("NOTHING", CallMarket.NOTHING, -6);
        int seen = 0;
        for (Field field : CallMarket.class.getDeclaredFields()) {
            boolean isPrivate = Modifier.isPrivate(field.getModifiers());
            seen += isPrivate ? 0 : 1;
            if (Modifier.isStatic(field.getModifiers())) {
                Check.due(field + " is final", Modifier.isFinal(field.getModifiers()), true);
            }
        }
        Check.due("fields that can be seen", seen, 6);
    }

    private static void methods() {
        Set<String> due = new TreeSet<>(Arrays.asList(METHODS));
        Set<String> names = new TreeSet<>();
        for (String method : METHODS) {
            names.add(method.substring(method.indexOf(' ') + 1, method.indexOf('(')));
        }
        for (Method method : CallMarket.class.getDeclaredMethods()) {
            if (Modifier.isPrivate(method.getModifiers())) {
                String name = method.getName();
                Check.due("private " + name + " bears a public name", names.contains(name), false);
            } else {
                Check.due(written(method) + " is of the face", due.remove(written(method)), true);
                Check.due(method + " is public", Modifier.isPublic(method.getModifiers()), true);
                Check.due(method + " is static", Modifier.isStatic(method.getModifiers()), false);
            }
        }
        Check.due("methods that are missing: " + due, due.size(), 0);
    }

    private static String written(Method method) {
        StringBuilder text = new StringBuilder();
        text.append(method.getReturnType()).append(' ').append(method.getName()).append('(');
        for (Class<?> type : method.getParameterTypes()) {
            text.append(text.charAt(text.length() - 1) == '(' ? "" : ", ").append(type);
        }
        return text.append(')').toString();
    }

    private static void shape() {
        int shape = CallMarket.class.getModifiers();
        Check.due("the class is public", Modifier.isPublic(shape), true);
        Check.due("the class is final", Modifier.isFinal(shape), true);
        Constructor<?>[] constructors = CallMarket.class.getDeclaredConstructors();
        Check.due("constructors", constructors.length, 1);
        Check.due("parameters of the constructor", constructors[0].getParameterCount(), 0);
        Check.due("the constructor is public", Modifier.isPublic(constructors[0].getModifiers()), true);
        for (Class<?> inside : CallMarket.class.getDeclaredClasses()) {
            int bits = inside.getModifiers();
            Check.due(inside + " is static", Modifier.isStatic(bits), true);
            Check.due(inside + " is public or protected", Modifier.isPublic(bits) || Modifier.isProtected(bits), false);
        }
    }
}
