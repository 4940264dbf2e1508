import java.lang.reflect.InvocationTargetException;
import java.lang.reflect.Method;
import java.util.Arrays;
import java.util.HashMap;
import java.util.Map;

/** Calls that are written as texts, like "addItem 0 3 2 5", on a PickHall or a Model. */
final class Calls {
    private static final Map<String, Method> METHODS = new HashMap<>();

    private Calls() {
    }

    /** The answer, or the name of the exception. "text .." appends all that stands behind it to the text buffer. */
    static String answer(Object hall, String call) {
        String[] words = call.trim().split(" +");
        if (words[0].equals("text")) {
            return appendAll(hall, call.substring(call.indexOf("text ") + 5));
        }
        Object[] numbers = Arrays.stream(words).skip(1).map(Calls::number).toArray();
        return invoke(hall, words[0], numbers);
    }

    private static Object number(String word) {
        return word.equals("MIN") ? Integer.MIN_VALUE : word.equals("MAX") ? Integer.MAX_VALUE : Integer.valueOf(word);
    }

    private static String appendAll(Object hall, String text) {
        String length = "";
        for (int k = 0; k < text.length(); k += 4) {
            int four = 0;
            for (int b = 0; b < 4; b++) {
                four = four << 8 | (k + b < text.length() ? text.charAt(k + b) & 255 : ' ');
            }
            length = invoke(hall, "appendText", four);
        }
        int padding = (4 - text.length() % 4) % 4;
        return padding == 0 ? length : invoke(hall, "truncateText", Integer.parseInt(length) - padding);
    }

    private static String invoke(Object hall, String name, Object... numbers) {
        String key = hall.getClass().getName() + " " + name + " " + numbers.length;
        Method method = METHODS.computeIfAbsent(key, unknown -> method(hall, name, numbers.length));
        try {
            return String.valueOf(method.invoke(hall, numbers));
        } catch (InvocationTargetException e) {
            return e.getCause().getClass().getSimpleName();
        } catch (IllegalAccessException e) {
            throw new AssertionError(e);
        }
    }

    private static Method method(Object hall, String name, int parameters) {
        for (Method method : hall.getClass().getDeclaredMethods()) {
            if (method.getName().equals(name) && method.getParameterCount() == parameters) {
                return method;
            }
        }
        throw new AssertionError("the test itself is wrong: there is no " + name + " with " + parameters);
    }

    static boolean isRefusal(String answer) {
        return answer.endsWith("Exception");
    }
}
