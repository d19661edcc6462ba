import java.lang.reflect.InvocationTargetException;
import java.lang.reflect.Method;
import java.util.HashMap;
import java.util.Map;

/**
 * A new object that takes its calls as texts ("tell 0 3 70"), so that rows of a table can hold them. It counts them,
 * since nothing is promised behind the 512th, and tells a call that throws.
 */
final class House {
    static final int MOST_CALLS = 512;

    private static final Map<String, Method> METHODS = new HashMap<>();

    static {
        for (Method method : ToldChances.class.getMethods()) {
            if (method.getDeclaringClass() == ToldChances.class) {
                METHODS.put(method.getName(), method);
            }
        }
    }

    private final ToldChances object = new ToldChances();
    private int calls = 0;

    /** Begins with these calls, parted by semicolons. */
    House(String script) {
        play(script);
    }

    int calls() {
        return calls;
    }

    /** Calls parted by semicolons, or: keys TEXT (each sign is keyed), cases T yno P P P (for events 0, 1, ..). */
    void play(String script) {
        for (String text : script.split(";")) {
            String step = text.stripLeading();
            if (step.startsWith("keys ")) {
                keyIn(step.substring(5));
            } else if (step.startsWith("cases ")) {
                addCases(step.split(" "));
            } else if (!step.isEmpty()) {
                call(step);
            }
        }
    }

    void keyIn(String text) {
        for (int i = 0; i < text.length(); i++) {
            call("key " + (int) text.charAt(i));
        }
    }

    private void addCases(String[] words) {
        for (int e = 0; e + 3 < words.length; e++) {
            call("tell " + words[1] + " " + e + " " + words[e + 3]);
            char came = words[2].charAt(e);
            call((came == 'y' ? "yes " : came == 'n' ? "no " : "open ") + e);
        }
    }

    long call(String text) {
        String[] words = text.strip().split(" +");
        Method method = METHODS.get(words[0]);
        if (method == null || method.getParameterCount() != words.length - 1) {
            throw new IllegalArgumentException("a test makes no such call: " + text);
        }
        Object[] numbers = new Object[words.length - 1];
        for (int i = 0; i < numbers.length; i++) {
            numbers[i] = Integer.parseInt(words[i + 1]);
        }
        calls++;
        if (calls > MOST_CALLS) {
            throw new IllegalStateException("a test makes more calls than are promised: " + text);
        }
        try {
            return ((Number) method.invoke(object, numbers)).longValue();
        } catch (InvocationTargetException thrown) {
            throw new IllegalStateException(text + " threw " + thrown.getCause(), thrown);
        } catch (IllegalAccessException hidden) {
            throw new IllegalStateException(text + " is hidden", hidden);
        }
    }

    /** The text of a report, sign by sign. */
    String report(int t) {
        StringBuilder text = new StringBuilder();
        long length = call("report " + t + " -1");
        for (int i = 0; i < length; i++) {
            text.append((char) call("report " + t + " " + i));
        }
        return text.toString();
    }

    /** The script for i from 0 on, as often as told, with i for each #. */
    static String times(int count, String script) {
        return span(0, count - 1, script);
    }

    static String span(int first, int last, String script) {
        StringBuilder text = new StringBuilder();
        for (int i = first; i <= last; i++) {
            text.append(script.replace("#", Integer.toString(i))).append(';');
        }
        return text.toString();
    }
}
