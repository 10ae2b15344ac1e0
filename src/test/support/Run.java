import java.lang.reflect.Method;
import java.util.ArrayList;
import java.util.HashMap;
import java.util.List;
import java.util.Map;

/**
 * One object and the calls on it, each told as a text: "put 0 1 5 0 0". MIN and MAX are the ends of int. Two more
 * than the face has: "type" and a text feeds its bytes, "tell" and a text feeds them and calls text().
 * No run asks more than the 512 calls that the document promises anything for.
 */
final class Run {
    private static final int CALLS = 512;
    private static final Map<String, Method> FACE = face();

    private final HeightSheet x = new HeightSheet();
    private final List<String> trail = new ArrayList<>();
    private int calls;

    Run(String... before) {
        for (String call : before) ask(call);
    }

    private static Map<String, Method> face() {
        Map<String, Method> face = new HashMap<>();
        for (Method m : HeightSheet.class.getDeclaredMethods()) {
            if (java.lang.reflect.Modifier.isPublic(m.getModifiers())) face.put(m.getName(), m);
        }
        return face;
    }

    int ask(String call) {
        trail.add(call);
        if (call.startsWith("type ")) return type(call.substring(5));
        if (call.startsWith("tell ")) {
            type(call.substring(5));
            return invoke("text");
        }
        String[] words = call.split(" ");
        Object[] arguments = new Object[words.length - 1];
        for (int i = 1; i < words.length; i++) arguments[i - 1] = number(words[i]);
        return invoke(words[0], arguments);
    }

    private int type(String text) {
        int last = 0;
        for (int i = 0; i < text.length(); i++) last = invoke("feed", (int) text.charAt(i));
        return last;
    }

    private static int number(String word) {
        if (word.equals("MIN")) return Integer.MIN_VALUE;
        return word.equals("MAX") ? Integer.MAX_VALUE : Integer.parseInt(word);
    }

    private int invoke(String name, Object... arguments) {
        calls++;
        if (calls > CALLS) throw new IllegalStateException("a test asks more than " + CALLS + " calls: " + trail());
        try {
            return (int) FACE.get(name).invoke(x, arguments);
        } catch (ReflectiveOperationException e) {
            throw new IllegalStateException("it threw: " + trail(), e);
        }
    }

    int calls() {
        return calls;
    }

    /** The last calls, for a message. */
    String trail() {
        int from = Math.max(0, trail.size() - 12);
        return (from > 0 ? ".. " : "") + String.join(", ", trail.subList(from, trail.size()));
    }
}
