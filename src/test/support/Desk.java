import java.lang.reflect.InvocationTargetException;
import java.lang.reflect.Method;
import java.util.HashMap;
import java.util.Map;

/**
 * A new object of WarmFloor on the desk, called by texts, parted by " | ", with the answers that are due:
 * "cell 23 0 400 = 200 | warmth 0 23 0 = 400". Beside the calls of the face there are "habits 0 k1:0+"
 * (types a text) and "row 0 2 5 6 7" (a SHEET with its items). It counts its calls.
 */
final class Desk {
    /** Is told each answer that has one due. */
    interface Answers {
        void due(String call, long got, long want);
    }

    /** Nothing is promised of an object behind so many calls, so no case may need more. */
    private static final int MOST_CALLS = 512;

    private static final Map<String, Integer> NAMES = Map.ofEntries(
        Map.entry("NONE", -1), Map.entry("BAD", -2), Map.entry("NOT", -3), Map.entry("FULL", -4),
        Map.entry("NULL", -11), Map.entry("INDEX", -12), Map.entry("CAST", -13), Map.entry("STORE", -14),
        Map.entry("SIZE", -15), Map.entry("MIN", Integer.MIN_VALUE), Map.entry("MAX", Integer.MAX_VALUE));

    private static final Map<String, Method> FACE = face();

    private final WarmFloor x = new WarmFloor();
    private final Answers answers;
    private int calls = 0;

    Desk(Answers answers) {
        this.answers = answers;
    }

    private static Map<String, Method> face() {
        Map<String, Method> face = new HashMap<>();
        for (Method m : WarmFloor.class.getMethods()) {
            if (m.getDeclaringClass() == WarmFloor.class) {
                face.put(m.getName(), m);
            }
        }
        return face;
    }

    static int value(String word) {
        return NAMES.containsKey(word) ? NAMES.get(word) : Integer.parseInt(word);
    }

    void plays(String some) {
        for (String text : some.split(" \\| ")) {
            does(text);
        }
    }

    private void does(String text) {
        String[] words = text.split(" ");
        if (words[0].equals("habits")) {
            types(words[1], words[2]);
        } else if (words[0].equals("row")) {
            lays(words);
        } else {
            int at = text.indexOf(" = ");
            long got = call(at < 0 ? text : text.substring(0, at));
            if (at >= 0) {
                answers.due(text.substring(0, at), got, value(text.substring(at + 3)));
            }
        }
    }

    private void types(String person, String text) {
        for (char c : text.toCharArray()) {
            call("type " + person + " " + (int) c);
        }
    }

    private void lays(String[] words) {
        int first = 3;
        call("sheet " + words[1] + " " + words[2] + " " + (words.length - first));
        for (int i = first; i < words.length; i++) {
            call("lay " + words[1] + " " + words[2] + " " + (i - first) + " " + words[i]);
        }
    }

    long call(String text) {
        String[] words = text.split(" ");
        Method m = FACE.get(words[0]);
        if (m == null || words.length != m.getParameterCount() + 1) {
            throw new IllegalStateException("'" + text + "' is no call");
        }
        Class<?>[] types = m.getParameterTypes();
        Object[] values = new Object[types.length];
        for (int i = 0; i < types.length; i++) {
            if (types[i] == boolean.class) {
                values[i] = words[i + 1].equals("true");
            } else {
                values[i] = value(words[i + 1]);
            }
        }
        calls++;
        answers.due("number of calls up to " + text, Math.max(calls, MOST_CALLS), MOST_CALLS);
        try {
            return ((Number) m.invoke(x, values)).longValue();
        } catch (InvocationTargetException thrown) {
            answers.due("number of throws by " + text + " (" + thrown.getCause() + ")", 1, 0);
            return Long.MIN_VALUE;
        } catch (IllegalAccessException hidden) {
            throw new IllegalStateException(hidden);
        }
    }
}
