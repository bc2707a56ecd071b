import java.util.Map;
import java.util.Set;
import java.util.TreeMap;
import java.util.TreeSet;

/** All that an object shows of its state, part by part. Taking it uses the object up. */
final class Snapshot {
    private final Map<String, String> parts = new TreeMap<>();

    private Snapshot() {
    }

    static Snapshot of(LotBeliefs x) {
        Snapshot s = new Snapshot();
        int slips = x.told(1);
        s.put("status", 3, x::status);
        s.put("fault", 1, i -> x.fault());
        s.put("order", 13, x::at);
        s.put("law", 1, i -> x.told(5));
        s.put("world", 1, i -> x.told(4));
        s.put("jar", 4, x::told);
        s.put("jar", slips, x::models);
        s.put("jar", x.told(2), x::seen);
        s.put("jar", 52, x::left);
        s.put("question", 8, x::proof);
        for (int age = 0; age < 3 && slips > 1; age++) {
            int a = age;
            s.put("tongue", slips - 1, i -> x.judge(i, i + 1, a, i));
        }
        s.put("images", 1, x::count);
        for (int i = 0; x.restore() >= 0; i++) {
            s.put("images", 13, x::at);
            s.put("images", 2, what -> x.told(4 + what));
        }
        x.law(1);
        x.order(slips < 2 ? 0 : 0x0123456789ABL >>> 4 * (12 - slips));
        s.put("jar", 1 << x.told(3), x::salty);
        s.put("tape", 2, x::count);
        s.put("tape", 1, i -> x.jar(x.count(1)));
        s.put("tape", 1, i -> x.fault());
        s.put("tape", 6, x::told);
        return s;
    }

    private void put(String part, int many, java.util.function.IntToLongFunction call) {
        StringBuilder b = new StringBuilder(parts.getOrDefault(part, ""));
        for (int i = 0; i < many; i++) {
            b.append(call.applyAsLong(i)).append(' ');
        }
        parts.put(part, b.toString());
    }

    /** The parts in which another one differs. */
    Set<String> unlike(Snapshot other) {
        Set<String> names = new TreeSet<>();
        for (String name : parts.keySet()) {
            if (!parts.get(name).equals(other.parts.get(name))) {
                names.add(name);
            }
        }
        return names;
    }
}
