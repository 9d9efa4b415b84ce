import java.lang.reflect.Executable;
import java.lang.reflect.Method;
import java.lang.reflect.Modifier;
import java.util.Set;
import java.util.TreeSet;

/** The calls of the class, written as the document writes them, but without their parameters' names. */
final class Face {
    /** Whether the class has this public call, told like 'int draft(int i, int a, int b)'. */
    static boolean has(String call) {
        return calls().contains(withoutNames(call));
    }

    /** All public calls that the class itself tells, the constructors among them. */
    static Set<String> calls() {
        Set<String> calls = new TreeSet<>();
        for (Executable made : ShiftHouse.class.getConstructors()) {
            calls.add("ShiftHouse" + parameters(made));
        }
        for (Method method : ShiftHouse.class.getDeclaredMethods()) {
            if (Modifier.isPublic(method.getModifiers())) {
                calls.add(method.getReturnType().getName() + " " + method.getName() + parameters(method));
            }
        }
        return calls;
    }

    static String withoutNames(String call) {
        return call.replaceAll("(int|long|boolean) \\w+(?=[,)])", "$1");
    }

    private static String parameters(Executable call) {
        StringBuilder text = new StringBuilder("(");
        for (Class<?> type : call.getParameterTypes()) {
            text.append(text.length() == 1 ? "" : ", ").append(type.getName());
        }
        return text.append(")").toString();
    }
}
