import java.lang.reflect.InvocationTargetException;
import java.lang.reflect.Method;
import java.lang.reflect.Modifier;
import java.util.HashMap;
import java.util.Map;

/** A new object and the calls made on it, each written as a text such as "drops(4, 9, 1, 10)". */
final class Calls {
    /** What the document promises for one object; a test that goes on beyond it would test nothing. */
    private static final int MOST_CALLS = 512;
    private static final Map<String, Method> METHODS = methodsOfTheFace();

    private final Brightband object = new Brightband();
    private int made = 0;

    private static Map<String, Method> methodsOfTheFace() {
        Map<String, Method> methods = new HashMap<>();
        for (Method method : Brightband.class.getDeclaredMethods()) {
            if (Modifier.isPublic(method.getModifiers())) {
                methods.put(method.getName(), method);
            }
        }
        return methods;
    }

    String answer(String call) {
        made++;
        if (made > MOST_CALLS) {
            return "a call beyond the " + MOST_CALLS + "th";
        }
        int open = call.indexOf('(');
        Method method = METHODS.get(call.substring(0, open));
        String inside = call.substring(open + 1, call.indexOf(')'));
        return answer(method, inside.isEmpty() ? new String[0] : inside.split(", "));
    }

    private String answer(Method method, String[] texts) {
        Class<?>[] types = method.getParameterTypes();
        Object[] given = new Object[texts.length];
        for (int i = 0; i < given.length; i++) {
            given[i] = types[i] == boolean.class ? (Object) Boolean.valueOf(texts[i]) : (Object) Integer.valueOf(texts[i]);
        }
        try {
            return String.valueOf(method.invoke(object, given));
        } catch (InvocationTargetException e) {
            return "throws." + e.getCause().getClass().getSimpleName();
        } catch (IllegalAccessException e) {
            return "no access";
        }
    }
}
