import java.util.ArrayList;
import java.util.List;
import java.util.Map;
import java.util.Set;
import java.util.TreeMap;
import java.util.TreeSet;

/** Which method calls which, the library's too. */
final class CallGraph {
    private final Map<String, Set<String>> called = new TreeMap<>();

    void add(String method) {
        called.computeIfAbsent(method, m -> new TreeSet<>());
    }

    void add(String from, String to) {
        add(from);
        add(to);
        called.get(from).add(to);
    }

    Set<String> methods() {
        return called.keySet();
    }

    /** All methods that come back to themselves. */
    Set<String> inRings() {
        Set<String> found = new TreeSet<>();
        for (String method : methods()) {
            if (reached(method).contains(method)) {
                found.add(method);
            }
        }
        return found;
    }

    private Set<String> reached(String method) {
        Set<String> found = new TreeSet<>();
        List<String> open = new ArrayList<>(called.get(method));
        while (!open.isEmpty()) {
            String next = open.remove(open.size() - 1);
            if (found.add(next)) {
                open.addAll(called.get(next));
            }
        }
        return found;
    }

    /** The longest chain of calls from here, this one the first; a ring is passed through without being counted. */
    List<String> deepestFrom(String method) {
        Set<String> ring = new TreeSet<>();
        for (String other : reached(method)) {
            if (reached(other).contains(method)) {
                ring.add(other);
            }
        }
        boolean alone = ring.isEmpty();
        ring.add(method);
        List<String> deepest = new ArrayList<>();
        for (String member : ring) {
            for (String next : called.get(member)) {
                if (!ring.contains(next)) {
                    List<String> chain = deepestFrom(next);
                    deepest = chain.size() > deepest.size() ? chain : deepest;
                }
            }
        }
        List<String> whole = new ArrayList<>();
        if (alone) {
            whole.add(method);
        }
        whole.addAll(deepest);
        return whole;
    }
}
