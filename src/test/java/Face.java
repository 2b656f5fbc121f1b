import java.lang.reflect.InvocationTargetException;
import java.lang.reflect.Method;
import java.nio.charset.StandardCharsets;
import java.util.Arrays;
import java.util.HashMap;
import java.util.Map;

/** Calls of StairMeter by their names; what they answer, or throw, as a text. */
final class Face {
    private static final Map<String, Method> METHODS = new HashMap<>();

    static {
        for (Method method : StairMeter.class.getDeclaredMethods()) {
            if (java.lang.reflect.Modifier.isPublic(method.getModifiers())) {
                METHODS.put(method.getName(), method);
            }
        }
    }

    private final StairMeter meter = new StairMeter();

    static int parameters(String name) {
        return METHODS.get(name).getParameterCount();
    }

    static boolean isBoolean(String name, int parameter) {
        return METHODS.get(name).getParameterTypes()[parameter] == boolean.class;
    }

    /** A boolean counts 1 or 0, void 0. */
    String call(String name, int... a) {
        Method method = METHODS.get(name);
        Object[] told = new Object[a.length];
        for (int i = 0; i < a.length; i++) {
            told[i] = isBoolean(name, i) ? (Object) (a[i] != 0) : (Object) a[i];
        }
        try {
            Object answer = method.invoke(meter, told);
            if (answer instanceof Boolean) {
                return (Boolean) answer ? "1" : "0";
            }
            return answer == null ? "0" : answer.toString();
        } catch (InvocationTargetException e) {
            return "throws." + e.getCause().getClass().getSimpleName();
        } catch (IllegalAccessException e) {
            throw new IllegalStateException(e);
        }
    }

    /** The five numbers of each call of feed by which a text comes. */
    static int[][] feeds(byte[] bytes) {
        int[][] all = new int[(bytes.length + 19) / 20][5];
        for (int i = 0; i < bytes.length; i++) {
            all[i / 20][i % 20 / 4] |= Byte.toUnsignedInt(bytes[i]) << 24 - 8 * (i % 4);
        }
        return all;
    }

    static byte[] bytes(String text) {
        return text.getBytes(StandardCharsets.ISO_8859_1);
    }

    static String told(String name, int... a) {
        return name + Arrays.toString(a).replace('[', '(').replace(']', ')');
    }
}
