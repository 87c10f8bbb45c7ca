import java.lang.reflect.InvocationTargetException;
import java.lang.reflect.Method;
import java.util.HashMap;
import java.util.Map;

/** Calls of the face by their names, and what they answer, as texts. */
final class Calls {
    private static final Map<String, Method> FACE = new HashMap<>();

    private Calls() {
    }

    /** The answer, or throws. and the exception's name; a boolean is told by 1 or 0. */
    static String answer(Connectory x, String call, int... numbers) {
        try {
            return String.valueOf(method(call).invoke(x, arguments(method(call), numbers)));
        } catch (InvocationTargetException thrown) {
            return "throws." + Check.nameOf((RuntimeException) thrown.getCause());
        } catch (IllegalAccessException thrown) {
            throw new AssertionError(thrown);
        }
    }

    static String told(String call, int... numbers) {
        StringBuilder text = new StringBuilder(call).append('(');
        for (int i = 0; i < numbers.length; i++) {
            text.append(i == 0 ? "" : ", ").append(numbers[i]);
        }
        return text.append(')').toString();
    }

    private static Method method(String call) {
        if (FACE.isEmpty()) {
            for (Method each : Connectory.class.getMethods()) {
                if (each.getDeclaringClass() == Connectory.class) {
                    FACE.put(each.getName(), each);
                }
            }
        }
        return FACE.get(call);
    }

    private static Object[] arguments(Method method, int[] numbers) {
        Object[] arguments = new Object[numbers.length];
        for (int i = 0; i < numbers.length; i++) {
            if (method.getParameterTypes()[i] == boolean.class) {
                arguments[i] = numbers[i] == 1;
            } else {
                arguments[i] = numbers[i];
            }
        }
        return arguments;
    }
}
