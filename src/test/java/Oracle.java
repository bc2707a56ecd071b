import java.util.ArrayDeque;
import java.util.ArrayList;
import java.util.Collections;
import java.util.Comparator;
import java.util.Deque;
import java.util.HashMap;
import java.util.HashSet;
import java.util.List;
import java.util.Map;
import java.util.Set;
import java.util.TreeSet;
import java.util.function.IntPredicate;
import java.util.regex.Matcher;
import java.util.regex.Pattern;

/**
 * The document told once more, as slowly and plainly as can be: sets of numbers, a year walked through
 * week by week, all subsets and all orders tried. It shares no code and no shortcut with the class.
 */
final class Oracle {
    static final int NONE = -1;

    // ---- texts ----

    static final class Bad extends RuntimeException {
        private static final long serialVersionUID = 1L;
        final int fault;
        final int place;

        Bad(int fault, int place) {
            this.fault = fault;
            this.place = place;
        }
    }

    static final class Token {
        final String text;
        final int place;

        Token(String text, int place) {
            this.text = text;
            this.place = place;
        }
    }

    static final class Scan {
        final Deque<Token> tokens = new ArrayDeque<>();
        final int length;
        int open = 0;
        int atoms = 4;

        Scan(String text) {
            length = text.length();
            Matcher m = Pattern.compile(" *([a-z]+|[0-9]+|[^ ])", Pattern.DOTALL).matcher(text);
            while (m.find()) {
                tokens.add(new Token(m.group(1), m.start(1)));
            }
        }

        String see() {
            return tokens.isEmpty() ? "" : tokens.peek().text;
        }

        int place() {
            return tokens.isEmpty() ? length : tokens.peek().place;
        }

        boolean end() {
            return tokens.isEmpty();
        }

        void need(String text) {
            if (!see().equals(text)) {
                throw new Bad(1, place());
            }
            tokens.remove();
        }

        boolean may(String text) {
            if (!see().equals(text)) {
                return false;
            }
            tokens.remove();
            return true;
        }

        int number(int low, int high) {
            if (!see().matches("[0-9]+")) {
                throw new Bad(1, place());
            }
            java.math.BigInteger v = new java.math.BigInteger(see());
            if (v.compareTo(java.math.BigInteger.valueOf(low)) < 0
                    || v.compareTo(java.math.BigInteger.valueOf(high)) > 0) {
                throw new Bad(2, place());
            }
            tokens.remove();
            return v.intValue();
        }

        void open() {
            if (++open > 6) {
                throw new Bad(3, place());
            }
            tokens.remove();
        }
    }

    static IntPredicate either(Scan s) {
        IntPredicate p = each(s);
        while (s.may("or")) {
            IntPredicate a = p;
            IntPredicate b = each(s);
            p = w -> a.test(w) || b.test(w);
        }
        return p;
    }

    static IntPredicate each(Scan s) {
        IntPredicate p = part(s);
        while (s.may("and")) {
            IntPredicate a = p;
            IntPredicate b = part(s);
            p = w -> a.test(w) && b.test(w);
        }
        return p;
    }

    static IntPredicate part(Scan s) {
        switch (s.see()) {
            case "not": {
                s.open();
                IntPredicate a = part(s);
                s.open--;
                return w -> !a.test(w);
            }
            case "[": {
                s.open();
                IntPredicate a = either(s);
                s.need("]");
                s.open--;
                return a;
            }
            case "if": {
                s.open();
                IntPredicate a = part(s);
                s.need("then");
                IntPredicate b = part(s);
                s.open--;
                return w -> !a.test(w) || b.test(w);
            }
            default: {
                int atom = s.see().length() == 1 ? "abcdef".indexOf(s.see()) : -1;
                if (s.end() || atom < 0 || atom >= s.atoms) {
                    throw new Bad(1, s.place());
                }
                s.tokens.remove();
                return w -> (w / (1 << atom)) % 2 == 1;
            }
        }
    }

    interface Number {
        int of(Map<String, Integer> v);
    }

    interface Truth {
        boolean of(Map<String, Integer> v);
    }

    static Truth tEither(Scan s) {
        Truth p = tEach(s);
        while (s.may("or")) {
            Truth a = p;
            Truth b = tEach(s);
            p = v -> a.of(v) || b.of(v);
        }
        return p;
    }

    static Truth tEach(Scan s) {
        Truth p = tPart(s);
        while (s.may("and")) {
            Truth a = p;
            Truth b = tPart(s);
            p = v -> a.of(v) && b.of(v);
        }
        return p;
    }

    static Truth tPart(Scan s) {
        if (s.see().equals("not")) {
            s.open();
            Truth a = tPart(s);
            s.open--;
            return v -> !a.of(v);
        }
        if (s.see().equals("[")) {
            s.open();
            Truth a = tEither(s);
            s.need("]");
            s.open--;
            return a;
        }
        Number a = sum(s);
        String r = s.see();
        if (!r.equals("<") && !r.equals(">") && !r.equals("=")) {
            throw new Bad(1, s.place());
        }
        s.tokens.remove();
        Number b = sum(s);
        return v -> r.equals("<") ? a.of(v) < b.of(v) : r.equals(">") ? a.of(v) > b.of(v) : a.of(v) == b.of(v);
    }

    static Number sum(Scan s) {
        Number p = product(s);
        while (s.see().equals("+") || s.see().equals("-")) {
            boolean plus = s.tokens.remove().text.equals("+");
            Number a = p;
            Number b = product(s);
            p = v -> plus ? a.of(v) + b.of(v) : a.of(v) - b.of(v);
        }
        return p;
    }

    static Number product(Scan s) {
        Number p = value(s);
        while (s.may("*")) {
            Number a = p;
            Number b = value(s);
            p = v -> a.of(v) * b.of(v);
        }
        return p;
    }

    static final Set<String> QUANTITIES = Set.of("age", "hurts", "olds", "news", "oldn", "newn", "week", "held",
            "left", "shared");

    static Number value(Scan s) {
        if (s.see().equals("(")) {
            s.open();
            Number a = sum(s);
            s.need(")");
            s.open--;
            return a;
        }
        if (QUANTITIES.contains(s.see())) {
            String name = s.tokens.remove().text;
            return v -> v.get(name);
        }
        int n = s.number(0, 999);
        return v -> n;
    }

    static final class Rule {
        int who;
        Truth when;
    }

    // ---- state ----

    static final class Told {
        int atoms = 4;
        List<Set<Integer>> slips = new ArrayList<>();
        List<Set<Integer>> sights = new ArrayList<>();
        List<Integer> weeks = new ArrayList<>();
        List<Set<Integer>> salts = new ArrayList<>();
        int world = 0;
        int law = 0;
    }

    static final class Image {
        List<Integer> order;
        int law;
        int world;
    }

    Told jar = new Told();
    List<Rule> rules = new ArrayList<>();
    Set<Integer> asked = null;
    List<Integer> order = new ArrayList<>();
    int law = 0;
    int world = 0;
    List<Image> images = new ArrayList<>();
    StringBuilder tape = new StringBuilder();
    int place = NONE;
    int[] refused = new int[3];

    RuntimeException index() {
        refused[0]++;
        return new IndexOutOfBoundsException();
    }

    RuntimeException argument() {
        refused[1]++;
        return new IllegalArgumentException();
    }

    RuntimeException state() {
        refused[2]++;
        return new IllegalStateException();
    }

    int n() {
        return jar.slips.size();
    }

    void slipCheck(int s) {
        if (s < 0 || s >= n()) {
            throw index();
        }
    }

    void range(int v, int low, int high) {
        if (v < low || v > high) {
            throw argument();
        }
    }

    void few() {
        if (n() > 7) {
            throw state();
        }
    }

    Set<Integer> allWorlds() {
        Set<Integer> r = new TreeSet<>();
        for (int w = 0; w < (int) Math.pow(2, jar.atoms); w++) {
            r.add(w);
        }
        return r;
    }

    static long bits(Iterable<Integer> set) {
        long r = 0;
        for (int i : set) {
            r += 1L << i;
        }
        return r;
    }

    Set<Integer> slipSet(int bits) {
        Set<Integer> r = new TreeSet<>();
        for (int i = 0; i < n(); i++) {
            if ((bits >>> i) % 2 != 0) {
                r.add(i);
            }
        }
        return r;
    }

    Set<Integer> leftSet(int week) {
        Set<Integer> r = allWorlds();
        for (int i = 0; i < jar.sights.size(); i++) {
            if (jar.weeks.get(i) <= week) {
                r.retainAll(jar.sights.get(i));
            }
        }
        return r;
    }

    Set<Integer> have(Iterable<Integer> slips, int week) {
        Set<Integer> r = leftSet(week);
        for (int s : slips) {
            r.retainAll(jar.slips.get(s));
        }
        return r;
    }

    Set<Integer> models(IntPredicate p, int atoms) {
        Set<Integer> r = new TreeSet<>();
        for (int w = 0; w < (int) Math.pow(2, atoms); w++) {
            if (p.test(w)) {
                r.add(w);
            }
        }
        return r;
    }

    // ---- a year ----

    static final class Holding {
        int piece;
        int weeks = 0;
        int hurts = 0;
    }

    static final class Year {
        List<Set<Integer>> behind = new ArrayList<>();
        List<Integer> eldest = new ArrayList<>();
        Map<Integer, Integer> drawn = new HashMap<>();
        Map<Integer, Integer> fell = new HashMap<>();
        Map<Integer, Integer> killed = new HashMap<>();
        Map<Integer, Integer> by = new HashMap<>();
        Map<Integer, Integer> weeks = new HashMap<>();
        Map<Integer, Integer> hurts = new HashMap<>();

        Set<Integer> end() {
            return behind.get(51);
        }
    }

    Set<Integer> piece(int p) {
        return p < 12 ? jar.slips.get(p) : jar.salts.get(p - 12);
    }

    static Set<Integer> meet(Set<Integer> a, Set<Integer> b) {
        Set<Integer> r = new TreeSet<>(a);
        r.retainAll(b);
        return r;
    }

    int byTongue(int old, int fresh, int age, int hurts, int week, int held) {
        Map<String, Integer> v = new HashMap<>();
        v.put("age", age);
        v.put("hurts", hurts);
        v.put("olds", piece(old).size());
        v.put("news", piece(fresh).size());
        v.put("oldn", old);
        v.put("newn", fresh);
        v.put("week", week);
        v.put("held", held);
        v.put("left", leftSet(week).size());
        v.put("shared", meet(piece(old), piece(fresh)).size());
        for (Rule r : rules) {
            if (r.when.of(v)) {
                return r.who;
            }
        }
        return 0;
    }

    int falls(int byLaw, Holding old, int fresh, int week, int held) {
        switch (byLaw) {
            case 0:
                return 0;
            case 1:
                return 1;
            case 2:
                return 2;
            case 3:
                return piece(old.piece).size() < piece(fresh).size() ? 2 : 1;
            default:
                return byTongue(old.piece, fresh, old.weeks, old.hurts, week, held);
        }
    }

    /** The row tells for each Monday what is drawn; null: nothing. */
    Year run(List<Integer> row, int byLaw) {
        Year y = new Year();
        List<Holding> held = new ArrayList<>();
        for (int p = 0; p < 17; p++) {
            y.weeks.put(p, 0);
            y.hurts.put(p, 0);
        }
        for (int week = 0; week < 52; week++) {
            Set<Integer> left = leftSet(week);
            for (Holding h : new ArrayList<>(held)) {
                if (meet(piece(h.piece), left).isEmpty()) {
                    held.remove(h);
                    y.killed.put(h.piece, week);
                }
            }
            if (week < row.size() && row.get(week) != null) {
                drawOne(y, held, row.get(week), week, byLaw, left);
            }
            Set<Integer> now = new TreeSet<>();
            for (Holding h : held) {
                h.weeks++;
                y.weeks.put(h.piece, h.weeks);
                if (!piece(h.piece).contains(world)) {
                    h.hurts++;
                    y.hurts.put(h.piece, h.hurts);
                }
                if (h.piece < 12) {
                    now.add(h.piece);
                }
            }
            y.behind.add(now);
            y.eldest.add(held.isEmpty() ? NONE : held.get(0).piece);
        }
        return y;
    }

    void drawOne(Year y, List<Holding> held, int fresh, int week, int byLaw, Set<Integer> left) {
        y.drawn.put(fresh, week);
        if (meet(piece(fresh), left).isEmpty()) {
            y.killed.put(fresh, week);
            return;
        }
        for (Holding old : new ArrayList<>(held)) {
            if (!meet(meet(piece(fresh), piece(old.piece)), left).isEmpty()) {
                continue;
            }
            int who = falls(byLaw, old, fresh, week, held.size());
            if (who != 1) {
                held.remove(old);
                y.fell.put(old.piece, week);
                y.by.put(old.piece, fresh);
            }
            if (who != 2) {
                y.fell.put(fresh, week);
                y.by.put(fresh, old.piece);
                return;
            }
        }
        Holding h = new Holding();
        h.piece = fresh;
        held.add(h);
    }

    Set<Integer> truthSet() {
        Set<Integer> r = new TreeSet<>();
        for (int s = 0; s < n(); s++) {
            if (jar.slips.get(s).contains(world)) {
                r.add(s);
            }
        }
        return r;
    }

    int good(List<Integer> row, int byLaw) {
        return meet(run(row, byLaw).end(), truthSet()).size();
    }

    List<List<Integer>> allOrders() {
        List<List<Integer>> r = new ArrayList<>();
        List<Integer> rest = new ArrayList<>();
        for (int i = 0; i < n(); i++) {
            rest.add(i);
        }
        grow(new ArrayList<>(), rest, r);
        return r;
    }

    static void grow(List<Integer> head, List<Integer> rest, List<List<Integer>> into) {
        if (rest.isEmpty()) {
            into.add(new ArrayList<>(head));
        }
        for (int x : new ArrayList<>(rest)) {
            head.add(x);
            rest.remove((Integer) x);
            grow(head, rest, into);
            head.remove(head.size() - 1);
            rest.add(x);
            Collections.sort(rest);
        }
    }

    List<Integer> lot(int seed) {
        List<Integer> r = new ArrayList<>();
        for (int i = 0; i < n(); i++) {
            r.add(i);
        }
        long s = seed & 0xffffffffL;
        for (int i = n() - 1; i >= 1; i--) {
            s = (s * 1103515245L + 12345L) & 0xffffffffL;
            Collections.swap(r, i, (int) (s / 65536 % 32768 % (i + 1)));
        }
        return r;
    }

    List<Integer> schoolRow(int school) {
        List<Integer> row = new ArrayList<>();
        for (int i = 0; i < n(); i++) {
            row.add(i % 2 == school ? order.get(i) : null);
        }
        return row;
    }

    /** All subsets of 0 .. many - 1, by size, then by bits. */
    static List<Integer> bySize(int many) {
        List<Integer> r = new ArrayList<>();
        for (int i = 0; i < 1 << many; i++) {
            r.add(i);
        }
        r.sort(Comparator.comparingInt((Integer i) -> Integer.bitCount(i)).thenComparingInt(i -> i));
        return r;
    }

    // ---- the face ----

    public int feed(int a, int b, int c, int d, int e) {
        if (tape.length() > 580) {
            return NONE;
        }
        for (int v : new int[] {a, b, c, d, e}) {
            for (byte x : java.nio.ByteBuffer.allocate(4).putInt(v).array()) {
                tape.append((char) (x & 255));
            }
        }
        return tape.length();
    }

    String take(int n, int most) {
        range(n, 0, Math.min(most, tape.length()));
        String text = tape.substring(0, n);
        tape.setLength(0);
        return text;
    }

    public int jar(int n) {
        String text = take(n, 600);
        Told t = new Told();
        try {
            readJar(new Scan(text), t);
        } catch (Bad b) {
            place = b.place;
            return b.fault - 10;
        }
        place = NONE;
        jar = t;
        law = t.law;
        world = t.world;
        rules = new ArrayList<>();
        asked = null;
        images.clear();
        order = new ArrayList<>();
        for (int i = 0; i < n(); i++) {
            order.add(i);
        }
        return n();
    }

    void readJar(Scan s, Told t) {
        int clauses = 0;
        while (!s.end()) {
            String word = s.see();
            int at = s.place();
            if (!Set.of("atoms", "slip", "see", "salt", "world", "law").contains(word)) {
                throw new Bad(1, at);
            }
            boolean many = clauses == 60 || word.equals("slip") && t.slips.size() == 12
                    || word.equals("see") && t.sights.size() == 12 || word.equals("salt") && t.salts.size() == 5;
            if (many) {
                throw new Bad(3, at);
            }
            if (word.equals("atoms") && clauses > 0) {
                throw new Bad(4, at);
            }
            s.tokens.remove();
            switch (word) {
                case "atoms":
                    t.atoms = s.number(1, 6);
                    s.atoms = t.atoms;
                    break;
                case "slip":
                    t.slips.add(models(either(s), t.atoms));
                    break;
                case "see":
                    t.weeks.add(s.number(0, 51));
                    t.sights.add(models(either(s), t.atoms));
                    break;
                case "salt":
                    t.salts.add(models(either(s), t.atoms));
                    break;
                case "world":
                    t.world = s.number(0, (1 << t.atoms) - 1);
                    break;
                default:
                    t.law = s.number(0, 4);
            }
            s.need(";");
            clauses++;
        }
    }

    public int question(int n) {
        String text = take(n, 200);
        try {
            Scan s = new Scan(text);
            s.atoms = jar.atoms;
            IntPredicate p = either(s);
            if (!s.end()) {
                throw new Bad(1, s.place());
            }
            asked = models(p, jar.atoms);
        } catch (Bad b) {
            place = b.place;
            return b.fault - 10;
        }
        place = NONE;
        return asked.size();
    }

    public int tongue(int n) {
        String text = take(n, 200);
        List<Rule> read = new ArrayList<>();
        try {
            Scan s = new Scan(text);
            while (!s.end()) {
                int who = List.of("both", "new", "old").indexOf(s.see());
                if (who < 0) {
                    throw new Bad(1, s.place());
                }
                if (read.size() == 10) {
                    throw new Bad(3, s.place());
                }
                s.tokens.remove();
                Rule r = new Rule();
                r.who = who;
                r.when = tEither(s);
                s.need(";");
                read.add(r);
            }
        } catch (Bad b) {
            place = b.place;
            return b.fault - 10;
        }
        place = NONE;
        rules = read;
        return rules.size();
    }

    public int fault() {
        return place;
    }

    public int told(int what) {
        range(what, 0, 5);
        return List.of(jar.atoms, n(), jar.sights.size(), jar.salts.size(), world, law).get(what);
    }

    public long models(int slip) {
        slipCheck(slip);
        return bits(jar.slips.get(slip));
    }

    public long seen(int seeing) {
        if (seeing < 0 || seeing >= jar.sights.size()) {
            throw index();
        }
        return bits(jar.sights.get(seeing));
    }

    public long left(int week) {
        range(week, 0, 51);
        return bits(leftSet(week));
    }

    public int kin(int slip, int other) {
        slipCheck(slip);
        slipCheck(other);
        Set<Integer> a = jar.slips.get(slip);
        Set<Integer> b = jar.slips.get(other);
        if (a.equals(b)) {
            return 0;
        }
        return b.containsAll(a) ? 1 : a.containsAll(b) ? 2 : Collections.disjoint(a, b) ? 3 : 4;
    }

    public boolean fallOut(int slip, int other, int week) {
        slipCheck(slip);
        slipCheck(other);
        range(week, 0, 51);
        return have(List.of(slip, other), week).isEmpty();
    }

    public int truths() {
        return (int) bits(truthSet());
    }

    public int dull() {
        int r = 0;
        for (int s = 0; s < n(); s++) {
            Set<Integer> still = new TreeSet<>(jar.slips.get(s));
            boolean dies = false;
            for (Set<Integer> sight : jar.sights) {
                still.retainAll(sight);
                dies |= still.isEmpty();
            }
            r |= dies ? 0 : 1 << s;
        }
        return r;
    }

    public int order(long slips) {
        String hex = n() == 0 ? (slips == 0 ? "" : "0") : String.format("%0" + n() + "x", slips);
        if (hex.length() != n()) {
            return 0;
        }
        List<Integer> r = new ArrayList<>();
        for (char c : hex.toCharArray()) {
            r.add(Character.digit(c, 16));
        }
        Set<Integer> set = new HashSet<>(r);
        if (set.size() != n()) {
            return 0;
        }
        for (int s : set) {
            if (s >= n()) {
                return 0;
            }
        }
        order = r;
        return 1;
    }

    public int at(int i) {
        return i < 0 || i >= n() ? NONE : order.get(i);
    }

    public int law(int other) {
        range(other, 0, 4);
        int was = law;
        law = other;
        return was;
    }

    public int world(int other) {
        range(other, 0, (1 << jar.atoms) - 1);
        int was = world;
        world = other;
        return was;
    }

    public int held(int week) {
        range(week, 0, 51);
        return (int) bits(run(order, law).behind.get(week));
    }

    public int fate(int slip, int what) {
        slipCheck(slip);
        range(what, 0, 4);
        Year y = run(order, law);
        switch (what) {
            case 0:
                return y.drawn.get(slip);
            case 1:
                return y.fell.getOrDefault(slip, y.killed.getOrDefault(slip, NONE));
            case 2:
                return y.by.getOrDefault(slip, NONE);
            case 3:
                return y.weeks.get(slip);
            default:
                return y.hurts.get(slip);
        }
    }

    static int sum(Map<Integer, Integer> m) {
        int r = 0;
        for (int v : m.values()) {
            r += v;
        }
        return r;
    }

    public int year(int what) {
        range(what, 0, 5);
        Year y = run(order, law);
        switch (what) {
            case 0:
                return (int) bits(y.end());
            case 1:
                return y.fell.size();
            case 2:
                return y.killed.size();
            case 3:
                return sum(y.hurts);
            case 4:
                return meet(y.end(), truthSet()).size();
            default:
                return have(y.end(), 51).isEmpty() ? 0 : 1;
        }
    }

    public int touchy() {
        Set<Integer> end = run(order, law).end();
        int r = 0;
        for (int i = 0; i + 1 < n(); i++) {
            List<Integer> row = new ArrayList<>(order);
            Collections.swap(row, i, i + 1);
            r += run(row, law).end().equals(end) ? 0 : 1;
        }
        return r;
    }

    public int ends(int what) {
        range(what, 0, 2);
        few();
        Set<Set<Integer>> ends = new HashSet<>();
        for (List<Integer> row : allOrders()) {
            ends.add(run(row, law).end());
        }
        if (what == 0) {
            return ends.size();
        }
        int r = 0;
        for (int s = 0; s < n(); s++) {
            int in = 0;
            for (Set<Integer> e : ends) {
                in += e.contains(s) ? 1 : 0;
            }
            r |= in == (what == 1 ? ends.size() : 0) ? 1 << s : 0;
        }
        return r;
    }

    public int orders(int slip) {
        slipCheck(slip);
        few();
        int r = 0;
        for (List<Integer> row : allOrders()) {
            r += run(row, law).end().contains(slip) ? 1 : 0;
        }
        return r;
    }

    public int best() {
        few();
        int most = -1;
        List<Integer> best = order;
        for (List<Integer> row : allOrders()) {
            int g = good(row, law);
            if (g > most) {
                most = g;
                best = row;
            }
        }
        order = best;
        return most;
    }

    public boolean fits(int slips, int week) {
        range(slips, 0, (1 << n()) - 1);
        range(week, 0, 51);
        return !have(slipSet(slips), week).isEmpty();
    }

    List<Integer> wholeSets(int week) {
        List<Integer> r = new ArrayList<>();
        for (int m = 0; m < 1 << n(); m++) {
            boolean whole = !have(slipSet(m), week).isEmpty();
            for (int s = 0; s < n() && whole; s++) {
                if (!slipSet(m).contains(s)) {
                    whole = have(slipSet(m + (1 << s)), week).isEmpty();
                }
            }
            if (whole) {
                r.add(m);
            }
        }
        return r;
    }

    public int sets(int week, int what) {
        range(week, 0, 51);
        range(what, 0, 3);
        if (what == 2) {
            return wholeSets(week).size();
        }
        int fit = 0;
        int greatest = NONE;
        int core = NONE;
        for (int m : bySize(n())) {
            if (have(slipSet(m), week).isEmpty()) {
                core = core == NONE ? m : core;
            } else {
                fit++;
                if (greatest == NONE || Integer.bitCount(m) > Integer.bitCount(greatest)) {
                    greatest = m;
                }
            }
        }
        return what == 0 ? fit : what == 1 ? greatest : core;
    }

    public int whole(int week, int i) {
        range(week, 0, 51);
        List<Integer> r = wholeSets(week);
        return i < 0 || i >= r.size() ? NONE : r.get(i);
    }

    public int proof(int week) {
        range(week, 0, 51);
        for (int m : bySize(n())) {
            Set<Integer> worlds = have(slipSet(m), week);
            if (!worlds.isEmpty() && (asked == null || asked.containsAll(worlds))) {
                return m;
            }
        }
        return NONE;
    }

    public int split(int week, int what) {
        range(week, 0, 51);
        range(what, 0, 1);
        int best = 0;
        int fewest = 1000;
        for (int a = 0; a < jar.atoms; a++) {
            int so = 0;
            int not = 0;
            for (int w : leftSet(week)) {
                if ((w >> a) % 2 == 1) {
                    so++;
                } else {
                    not++;
                }
            }
            if (Math.max(so, not) < fewest) {
                fewest = Math.max(so, not);
                best = a;
            }
        }
        return what == 0 ? best : fewest;
    }

    public int likely(int week) {
        range(week, 0, 51);
        int best = NONE;
        int most = -1;
        for (int w : leftSet(week)) {
            int so = 0;
            for (Set<Integer> s : jar.slips) {
                so += s.contains(w) ? 1 : 0;
            }
            if (so > most) {
                most = so;
                best = w;
            }
        }
        return best;
    }

    Set<Integer> saltyEnd(int salts) {
        List<Integer> row = new ArrayList<>();
        for (int i = 0; i < jar.salts.size(); i++) {
            if ((salts >> i) % 2 == 1) {
                row.add(12 + i);
            }
        }
        row.addAll(order);
        return run(row, law).end();
    }

    public int salted(int slips) {
        range(slips, 0, (1 << n()) - 1);
        for (int m : bySize(jar.salts.size())) {
            if (saltyEnd(m).containsAll(slipSet(slips))) {
                return m;
            }
        }
        return NONE;
    }

    public int salty(int salts) {
        range(salts, 0, (1 << jar.salts.size()) - 1);
        return (int) bits(saltyEnd(salts));
    }

    public int compared(int other) {
        range(other, 0, 4);
        few();
        int r = 0;
        for (List<Integer> row : allOrders()) {
            r += good(row, other);
        }
        return r;
    }

    public int drawn(int other, int seed, int many) {
        range(other, 0, 4);
        range(many, 1, 60);
        int r = 0;
        for (int i = 0; i < many; i++) {
            r += good(lot(seed + i), other);
        }
        return r;
    }

    public int draw(int seed, int i) {
        return i < 0 || i >= n() ? NONE : lot(seed).get(i);
    }

    public int school(int school, int week) {
        range(school, 0, 1);
        range(week, 0, 51);
        return (int) bits(run(schoolRow(school), law).behind.get(week));
    }

    public int right(int school) {
        range(school, 0, 1);
        Year y = run(schoolRow(school), law);
        for (int week = 0; week < 52; week++) {
            if (have(y.behind.get(week), week).equals(Set.of(world))) {
                return week;
            }
        }
        return NONE;
    }

    public int killer(int slip) {
        slipCheck(slip);
        Year y = run(order, law);
        if (!y.killed.containsKey(slip)) {
            return NONE;
        }
        List<Set<Integer>> before = new ArrayList<>();
        for (int i = 0; i < jar.sights.size(); i++) {
            if (jar.weeks.get(i) <= y.killed.get(slip)) {
                before.add(jar.sights.get(i));
                boolean any = false;
                for (int w : jar.slips.get(slip)) {
                    boolean in = true;
                    for (Set<Integer> b : before) {
                        in &= b.contains(w);
                    }
                    any |= in;
                }
                if (!any) {
                    return i;
                }
            }
        }
        return NONE;
    }

    public long together(int slips, int week) {
        range(slips, 0, (1 << n()) - 1);
        range(week, 0, 51);
        return bits(have(slipSet(slips), week));
    }

    public int following(int slips, int week) {
        range(slips, 0, (1 << n()) - 1);
        range(week, 0, 51);
        int r = 0;
        for (int s = 0; s < n(); s++) {
            r |= jar.slips.get(s).containsAll(have(slipSet(slips), week)) ? 1 << s : 0;
        }
        return r;
    }

    public int eldest(int week) {
        range(week, 0, 51);
        return run(order, law).eldest.get(week);
    }

    public int quarrels(int week) {
        range(week, 0, 51);
        int r = 0;
        for (int a = 0; a < n(); a++) {
            for (int b = 0; b < a; b++) {
                r += have(List.of(a, b), week).isEmpty() ? 1 : 0;
            }
        }
        return r;
    }

    public int peace(int week) {
        range(week, 0, 51);
        int best = 0;
        for (int m : bySize(n())) {
            boolean calm = true;
            for (int a : slipSet(m)) {
                for (int b : slipSet(m)) {
                    calm = calm && !have(List.of(a, b), week).isEmpty();
                }
            }
            if (calm && Integer.bitCount(m) > Integer.bitCount(best)) {
                best = m;
            }
        }
        return best;
    }

    public long worst(int what) {
        range(what, 0, 1);
        few();
        int most = -1;
        String digits = "";
        for (List<Integer> row : allOrders()) {
            int hurts = sum(run(row, law).hurts);
            if (hurts > most) {
                most = hurts;
                StringBuilder b = new StringBuilder("0");
                for (int s : row) {
                    b.append(Integer.toHexString(s));
                }
                digits = b.toString();
            }
        }
        return what == 0 ? most : Long.parseLong(digits, 16);
    }

    public int century(int slip, int seed, int many) {
        slipCheck(slip);
        range(many, 1, 60);
        int r = 0;
        for (int i = 0; i < many; i++) {
            r += run(lot(seed + i), law).end().contains(slip) ? 1 : 0;
        }
        return r;
    }

    public int known(int atom, int week) {
        range(atom, 0, jar.atoms - 1);
        range(week, 0, 51);
        int so = 0;
        Set<Integer> left = leftSet(week);
        for (int w : left) {
            so += (w >> atom) % 2;
        }
        return left.isEmpty() ? NONE : so == left.size() ? 1 : so == 0 ? 0 : 2;
    }

    private static final Map<Integer, Map<Long, Integer>> PLAIN = new HashMap<>();

    /** All sentences by length, until a length brings nothing new for a long while. */
    static Map<Long, Integer> plainTable(int atoms) {
        Map<Long, Integer> best = new HashMap<>();
        long all = (1L << (1 << atoms)) - 1;
        for (int a = 0; a < atoms; a++) {
            long m = 0;
            for (int w = 0; w < 1 << atoms; w++) {
                m |= (long) (w >> a & 1) << w;
            }
            best.put(m, 1);
        }
        boolean more = true;
        while (more) {
            more = false;
            for (Map.Entry<Long, Integer> e : new ArrayList<>(best.entrySet())) {
                more |= shorter(best, ~e.getKey() & all, e.getValue() + 1);
                for (Map.Entry<Long, Integer> f : new ArrayList<>(best.entrySet())) {
                    more |= shorter(best, e.getKey() & f.getKey(), e.getValue() + f.getValue() + 1);
                    more |= shorter(best, e.getKey() | f.getKey(), e.getValue() + f.getValue() + 1);
                }
            }
        }
        return best;
    }

    static boolean shorter(Map<Long, Integer> best, long m, int length) {
        if (best.getOrDefault(m, 1000000) <= length) {
            return false;
        }
        best.put(m, length);
        return true;
    }

    public int plain(int slip) {
        slipCheck(slip);
        if (jar.atoms > 3) {
            throw state();
        }
        return PLAIN.computeIfAbsent(jar.atoms, Oracle::plainTable).get(bits(jar.slips.get(slip)));
    }

    public int asks(int week) {
        range(week, 0, 51);
        for (int m : bySize(jar.atoms)) {
            Set<Integer> still = new TreeSet<>();
            for (int w : leftSet(week)) {
                if ((w & m) == (world & m)) {
                    still.add(w);
                }
            }
            if (still.equals(Set.of(world))) {
                return m;
            }
        }
        return NONE;
    }

    public int war(int what) {
        range(what, 0, 1);
        Year a = run(schoolRow(0), law);
        Year b = run(schoolRow(1), law);
        int weeks = 0;
        int first = NONE;
        for (int week = 51; week >= 0; week--) {
            Set<Integer> both = new TreeSet<>(a.behind.get(week));
            both.addAll(b.behind.get(week));
            if (have(both, week).isEmpty()) {
                weeks++;
                first = week;
            }
        }
        return what == 0 ? weeks : first;
    }

    public int grave(int i) {
        Year y = run(order, law);
        List<Integer> gone = new ArrayList<>();
        for (int s = 0; s < n(); s++) {
            if (y.fell.containsKey(s) || y.killed.containsKey(s)) {
                gone.add(s);
            }
        }
        gone.sort(Comparator.comparingInt((Integer s) -> -y.weeks.get(s)).thenComparingInt(s -> s));
        return i < 0 || i >= gone.size() ? NONE : gone.get(i);
    }

    public int canon(int k) {
        range(k, 0, 52);
        Year y = run(order, law);
        int r = 0;
        for (int s : y.end()) {
            r |= y.weeks.get(s) >= k && y.hurts.get(s) == 0 ? 1 << s : 0;
        }
        return r;
    }

    public int swap() {
        int most = good(order, law);
        int best = NONE;
        for (int i = 0; i < n(); i++) {
            for (int j = i + 1; j < n(); j++) {
                List<Integer> row = new ArrayList<>(order);
                Collections.swap(row, i, j);
                if (good(row, law) > most) {
                    most = good(row, law);
                    best = 16 * i + j;
                }
            }
        }
        return best;
    }

    public int humble() {
        for (int m : bySize(n())) {
            List<Integer> row = new ArrayList<>();
            for (int s : order) {
                if (!slipSet(m).contains(s)) {
                    row.add(s);
                }
            }
            if (run(row, law).end().size() == row.size()) {
                return m;
            }
        }
        return NONE;
    }

    public int judge(int old, int slip, int age, int week) {
        slipCheck(old);
        slipCheck(slip);
        range(age, 0, 52);
        range(week, 0, 51);
        return byTongue(old, slip, age, 0, week, 1);
    }

    public int image() {
        if (images.size() == 3) {
            return -1;
        }
        Image i = new Image();
        i.order = new ArrayList<>(order);
        i.law = law;
        i.world = world;
        images.add(i);
        return images.size();
    }

    public int restore() {
        if (images.isEmpty()) {
            return -1;
        }
        Image i = images.remove(images.size() - 1);
        order = i.order;
        law = i.law;
        world = i.world;
        return images.size();
    }

    public int status(int what) {
        return what < 0 || what > 2 ? NONE : refused[what];
    }

    public int count(int what) {
        return what == 0 ? images.size() : what == 1 ? tape.length() : NONE;
    }
}
