import java.lang.reflect.Method;
import java.util.ArrayList;
import java.util.LinkedHashMap;
import java.util.List;
import java.util.Map;
import java.util.regex.Matcher;
import java.util.regex.Pattern;

/**
 * Tests by sentence: each begins with the words of the document that it holds, and what fails names them.
 * Calls are written as texts, "put(0, 49, true)"; MIN and MAX are the least and the greatest int.
 */
final class Sentences {
    interface Make {
        KeyedTree tree();
    }

    private static final Pattern CALL = Pattern.compile("(\\w+)\\(([^)]*)\\)");
    private static final Map<String, Method> METHODS = new LinkedHashMap<>();

    static {
        for (Method method : KeyedTree.class.getMethods()) {
            if (method.getDeclaringClass() == KeyedTree.class) {
                METHODS.put(method.getName(), method);
            }
        }
    }

    private final Tally tally;
    private final Map<String, List<String>> quotes = new LinkedHashMap<>();
    private String here = "";

    Sentences(Tally tally) {
        this.tally = tally;
    }

    /** What follows holds these words, which stand under this heading of the document. */
    void of(String heading, String words) {
        quotes.computeIfAbsent(heading, none -> new ArrayList<>()).add(words);
        here = heading + ", \"" + words + "\": ";
    }

    Map<String, List<String>> quotes() {
        return quotes;
    }

    static Iterable<String> names() {
        return METHODS.keySet();
    }

    static long call(KeyedTree tree, String text) {
        Matcher parts = CALL.matcher(text);
        if (!parts.matches() || !METHODS.containsKey(parts.group(1))) {
            throw new IllegalArgumentException("no such call: " + text);
        }
        String[] told = parts.group(2).isBlank() ? new String[0] : parts.group(2).split(",");
        Object[] values = new Object[told.length];
        for (int i = 0; i < told.length; i++) {
            values[i] = value(told[i].trim());
        }
        try {
            return ((Number) METHODS.get(parts.group(1)).invoke(tree, values)).longValue();
        } catch (ReflectiveOperationException failed) {
            throw new IllegalStateException(text + " failed", failed);
        }
    }

    private static Object value(String told) {
        switch (told) {
            case "true": return true;
            case "false": return false;
            case "MIN": return Integer.MIN_VALUE;
            case "MAX": return Integer.MAX_VALUE;
            default: return Integer.parseInt(told);
        }
    }

    void due(String what, long got, long want) {
        tally.due(here + what, got, want);
    }

    void must(String what, boolean holds) {
        tally.must(here + what, holds);
    }

    void due(KeyedTree tree, String text, long want) {
        due(text, call(tree, text), want);
    }

    /** Calls on one object in turn, each with the answer that is due: text, number, text, number .. */
    KeyedTree all(KeyedTree tree, Object... rows) {
        StringBuilder path = new StringBuilder();
        for (int i = 0; i + 1 < rows.length; i += 2) {
            String text = (String) rows[i];
            path.append(text).append(' ');
            due(path.toString(), call(tree, text), ((Number) rows[i + 1]).longValue());
        }
        return tree;
    }

    /** One call with each of these numbers in the place of the #, on one object. */
    void each(KeyedTree tree, String text, long want, int... numbers) {
        for (int number : numbers) {
            due(tree, text.replace("#", "" + number), want);
        }
    }

    /** The call answers as due, and all else is then as if it had not been made. */
    void leaves(Make make, String text, long want) {
        KeyedTree called = make.tree();
        due(called, text, want);
        KeyedTree left = make.tree();
        String change = Trace.firstChange(left, called);
        must(text + " changed " + change, change.isEmpty());
    }

    void leaves(Make make, String text, long want, int... numbers) {
        for (int number : numbers) {
            leaves(make, text.replace("#", "" + number), want);
        }
    }

    /** The call changes nothing, whatever it answers. */
    void leaves(Make make, String text) {
        leaves(make, text, call(make.tree(), text));
    }
}
