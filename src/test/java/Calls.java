import java.lang.reflect.InvocationTargetException;
import java.lang.reflect.Method;
import java.lang.reflect.Modifier;
import java.util.ArrayList;
import java.util.List;
import java.util.Map;
import java.util.TreeMap;

/** Calls by their names, so that one and the same call can be made of the program and of the model. */
final class Calls {
    static final Map<String, Method> PROGRAM = methodsOf(RetentionArchive.class);
    static final Map<String, Method> MODEL = methodsOf(Model.class);

    private Calls() {
    }

    private static Map<String, Method> methodsOf(Class<?> type) {
        Map<String, Method> methods = new TreeMap<>();
        for (Method method : type.getDeclaredMethods()) {
            if (Modifier.isPublic(method.getModifiers())) {
                methods.put(method.getName(), method);
            }
        }
        return methods;
    }

    /** What the call answers, or the name of what it throws. */
    static String answer(Object object, String name, Object... arguments) {
        Map<String, Method> methods = object instanceof Model ? MODEL : PROGRAM;
        try {
            return String.valueOf(methods.get(name).invoke(object, arguments));
        } catch (InvocationTargetException e) {
            return e.getCause().getClass().getName();
        } catch (IllegalAccessException e) {
            return "no access";
        }
    }

    static String load(Object object, String text) {
        for (Object[] fours : fours(text)) {
            answer(object, "append", fours);
        }
        return answer(object, "load", text.length());
    }

    /** The arguments of each append() that a text needs, filled up with spaces. */
    static List<Object[]> fours(String text) {
        byte[] bytes = Checks.bytesOf(text);
        List<Object[]> all = new ArrayList<>();
        for (int at = 0; at < bytes.length; at += 20) {
            Object[] fours = new Object[5];
            for (int i = 0; i < 5; i++) {
                fours[i] = Checks.four(bytes, at + 4 * i);
            }
            all.add(fours);
        }
        return all;
    }
}
