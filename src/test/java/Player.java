import java.lang.reflect.InvocationTargetException;
import java.lang.reflect.Method;
import java.util.HashMap;
import java.util.Map;
import java.util.regex.Matcher;
import java.util.regex.Pattern;

/**
 * One object, and calls on it that are told as a text, as "begin(0) write(1, 5)".
 * "text(b0;c)" stands for an append of each of these characters.
 * The document promises 512 calls, so a test that needs more is refused here.
 */
final class Player {
    private static final int PROMISED_CALLS = 512;
    private static final Pattern CALL = Pattern.compile("(\\w+)\\(([^)]*)\\)");
    private static final Map<String, Method> METHODS = methods();

    private final WriteOnceDisc disc = new WriteOnceDisc();
    private int calls;

    private static Map<String, Method> methods() {
        Map<String, Method> methods = new HashMap<>();
        for (Method method : WriteOnceDisc.class.getDeclaredMethods()) {
            if (method.getModifiers() == java.lang.reflect.Modifier.PUBLIC) {
                methods.put(method.getName(), method);
            }
        }
        return methods;
    }

    /** Makes the calls in their order, and answers what the last one answered. */
    double play(String told) {
        double answer = 0;
        int end = 0;
        Matcher matcher = CALL.matcher(told);
        while (matcher.find()) {
            if (!told.substring(end, matcher.start()).isBlank()) {
                break;
            }
            end = matcher.end();
            boolean isText = matcher.group(1).equals("text");
            answer = isText ? appendAll(matcher.group(2)) : call(matcher.group(1), matcher.group(2));
        }
        if (!told.substring(end).isBlank()) {
            throw new IllegalArgumentException("no call: " + told.substring(end));
        }
        return answer;
    }

    private double appendAll(String text) {
        double answer = 0;
        for (int i = 0; i < text.length(); i++) {
            answer = call("append", String.valueOf((int) text.charAt(i)));
        }
        return answer;
    }

    private double call(String name, String arguments) {
        calls++;
        if (calls > PROMISED_CALLS) {
            throw new IllegalStateException("more calls than the document promises");
        }
        String[] parts = arguments.isBlank() ? new String[0] : arguments.split(",");
        Object[] numbers = new Object[parts.length];
        for (int i = 0; i < parts.length; i++) {
            numbers[i] = Integer.parseInt(parts[i].trim());
        }
        try {
            return ((Number) METHODS.get(name).invoke(disc, numbers)).doubleValue();
        } catch (IllegalAccessException | InvocationTargetException e) {
            throw new IllegalStateException(name + "(" + arguments + ")", e);
        }
    }
}
