import java.util.ArrayList;
import java.util.HashMap;
import java.util.LinkedHashMap;
import java.util.LinkedHashSet;
import java.util.List;
import java.util.Map;
import java.util.Set;
import javax.lang.model.element.Element;
import javax.lang.model.element.ElementKind;
import javax.lang.model.element.ExecutableElement;
import javax.lang.model.element.Modifier;

/** Which method of a program calls which: how deep calls go, and which of them are recursions. */
final class Calls {
    private static final int MOST_DEEP = 8;

    private final Map<Element, Set<Element>> called = new LinkedHashMap<>();
    private final Map<Element, Integer> depths = new HashMap<>();
    private final List<Element> open = new ArrayList<>();
    private final List<String> breaches = new ArrayList<>();

    /** What initialises a field is run by the constructors, so a call of one is a call of its class's initialisers too. */
    void add(Element caller, ExecutableElement method) {
        called.computeIfAbsent(caller, none -> new LinkedHashSet<>()).add(method);
        if (method.getKind() == ElementKind.CONSTRUCTOR) {
            called.computeIfAbsent(method, none -> new LinkedHashSet<>()).add(method.getEnclosingElement());
        }
    }

    List<String> breaches() {
        for (Element caller : List.copyOf(called.keySet())) {
            if (depth(caller) > MOST_DEEP) {
                breaches.add("rule 11: " + caller + " goes " + depth(caller) + " calls deep");
            }
        }
        return breaches;
    }

    /** How many calls stand open at most, this one among them; a method that calls itself is counted once. */
    private int depth(Element caller) {
        if (depths.containsKey(caller)) {
            return depths.get(caller);
        }
        open.add(caller);
        int below = 0;
        for (Element next : called.getOrDefault(caller, Set.of())) {
            if (open.contains(next)) {
                recursion(caller, next);
            } else {
                below = Math.max(below, depth(next));
            }
        }
        open.remove(open.size() - 1);
        depths.put(caller, 1 + below);
        return 1 + below;
    }

    /** Only a private static method that calls itself and carries its level is known to be guarded. */
    private void recursion(Element caller, Element next) {
        boolean guarded = caller.equals(next) && next.getModifiers().containsAll(Set.of(Modifier.PRIVATE, Modifier.STATIC))
            && ((ExecutableElement) next).getParameters().stream().anyMatch(one -> one.getSimpleName().contentEquals("level"));
        if (!guarded) {
            breaches.add("rule 8: " + caller + " calls " + next + ", which is open");
        }
    }
}
