import java.lang.reflect.InvocationTargetException;
import java.lang.reflect.Method;
import java.util.ArrayList;
import java.util.Arrays;
import java.util.Comparator;
import java.util.List;
import java.util.Random;

/** Random runs of calls, answered by the class and by the Oracle: each answer must be alike. */
public final class OracleTest {
    private static final String[] FACE = {"feed", "jar", "question", "tongue", "fault", "told", "models", "seen",
        "left", "kin", "fallOut", "truths", "dull", "order", "at", "law", "world", "held", "fate", "year", "touchy",
        "ends", "orders", "best", "fits", "sets", "whole", "proof", "split", "likely", "salted", "salty", "compared",
        "drawn", "draw", "school", "right", "killer", "together", "following", "eldest", "quarrels", "peace", "worst",
        "century", "known", "plain", "asks", "war", "grave", "canon", "swap", "humble", "judge", "image", "restore",
        "status", "count"};

    private static int wrong = 0;
    private static int asked = 0;

    public static void main(String[] args) throws Exception {
        int runs = args.length > 0 ? Integer.parseInt(args[0]) : 500;
        int from = args.length > 1 ? Integer.parseInt(args[1]) : 1;
        for (int seed = from; seed < from + runs && wrong < 20; seed++) {
            run(new Random(seed), seed);
        }
        System.out.println(asked + " calls, " + wrong + " unlike the oracle's");
        if (wrong != 0) {
            System.exit(1);
        }
    }

    private static void run(Random r, int seed) throws Exception {
        LotBeliefs x = new LotBeliefs();
        Oracle o = new Oracle();
        Texts texts = new Texts(r);
        List<String> log = new ArrayList<>();
        text(x, o, "jar", texts.jar(), log, seed);
        int calls = 60 + r.nextInt(60);
        for (int i = 0; i < calls; i++) {
            int kind = r.nextInt(40);
            if (kind == 0) {
                text(x, o, "jar", r.nextInt(3) == 0 ? texts.spoilt(texts.jar()) : texts.jar(), log, seed);
            } else if (kind == 1) {
                text(x, o, "question", texts.question(o.jar.atoms), log, seed);
            } else if (kind == 2) {
                text(x, o, "tongue", texts.tongue(), log, seed);
            } else if (kind == 3) {
                call(x, o, "order", new Object[] {hex(o.lot(r.nextInt()))}, log, seed);
            } else {
                String name = FACE[r.nextInt(FACE.length)];
                Object[] with = arguments(r, name, o);
                boolean dear = o.n() > 5 && List.of("ends", "orders", "best", "compared", "worst").contains(name);
                if (!name.equals("jar") && (!dear || o.n() > 7 || r.nextInt(60) == 0)) {
                    call(x, o, name, with, log, seed);
                }
            }
        }
        for (int s = 0; s < o.n(); s++) {
            for (int what = 0; what < 5; what++) {
                call(x, o, "fate", new Object[] {s, what}, log, seed);
            }
            call(x, o, "killer", new Object[] {s}, log, seed);
        }
        for (int week = 0; week < 52; week++) {
            call(x, o, "held", new Object[] {week}, log, seed);
        }
    }

    static long hex(List<Integer> order) {
        long v = 0;
        for (int s : order) {
            v = v * 16 + s;
        }
        return v;
    }

    private static Object[] arguments(Random r, String name, Oracle o) {
        Method m = method(Oracle.class, name);
        Object[] with = new Object[m.getParameterCount()];
        for (int i = 0; i < with.length; i++) {
            if (m.getParameterTypes()[i] == long.class) {
                with[i] = r.nextInt(3) == 0 ? r.nextLong() >>> r.nextInt(64) : hex(o.lot(r.nextInt()));
            } else {
                with[i] = argument(r, name, i, o);
            }
        }
        return with;
    }

    private static int argument(Random r, String name, int i, Oracle o) {
        if (r.nextInt(25) == 0) {
            int[] odd = {-1, -2, 52, 53, 60, 61, 12, 17, 99, 4096, Integer.MIN_VALUE, Integer.MAX_VALUE, 6, 5, 64};
            return odd[r.nextInt(odd.length)];
        }
        String place = name + i;
        if (Arrays.asList("left0", "fallOut2", "held0", "fits1", "sets0", "whole0", "proof0", "split0", "likely0",
                "school1", "together1", "following1", "eldest0", "quarrels0", "peace0", "known1", "asks0", "judge3",
                "judge2", "canon0").contains(place)) {
            return r.nextInt(r.nextBoolean() ? 52 : 14);
        }
        if (Arrays.asList("fits0", "salted0", "together0", "following0").contains(place)) {
            return r.nextInt(1 << o.n());
        }
        if (place.equals("salty0")) {
            return r.nextInt(1 << o.jar.salts.size());
        }
        if (Arrays.asList("drawn1", "draw0", "century1").contains(place)) {
            return r.nextInt();
        }
        if (Arrays.asList("drawn2", "century2").contains(place)) {
            return 1 + r.nextInt(8);
        }
        if (name.equals("feed")) {
            return r.nextInt();
        }
        if (Arrays.asList("question0", "tongue0").contains(place)) {
            return 1000;
        }
        if (Arrays.asList("models0", "kin0", "kin1", "fallOut0", "fallOut1", "fate0", "orders0", "century0", "killer0",
                "plain0", "judge0", "judge1", "at0", "draw1", "grave0", "whole1").contains(place)) {
            return r.nextInt(Math.max(1, o.n() + (r.nextInt(5) == 0 ? 1 : 0)));
        }
        if (place.equals("world0")) {
            return r.nextInt(1 << o.jar.atoms);
        }
        return r.nextInt(5);
    }

    private static Method method(Class<?> c, String name) {
        return Arrays.stream(c.getDeclaredMethods())
                .filter(m -> m.getName().equals(name) && java.lang.reflect.Modifier.isPublic(m.getModifiers()))
                .min(Comparator.comparing(Method::toString)).orElseThrow();
    }

    private static void text(LotBeliefs x, Oracle o, String name, String text, List<String> log, int seed)
            throws Exception {
        log.add(name + " \"" + text + "\"");
        if (o.tape.length() > 0) {
            call(x, o, "question", new Object[] {0}, log, seed);
        }
        for (int i = 0; i < text.length(); i += 20) {
            Object[] n = {0, 0, 0, 0, 0};
            for (int j = 0; j < 20; j++) {
                int c = i + j < text.length() ? text.charAt(i + j) & 255 : 0;
                n[j / 4] = (Integer) n[j / 4] << 8 | c;
            }
            call(x, o, "feed", n, null, seed);
        }
        call(x, o, name, new Object[] {text.length()}, log, seed);
        call(x, o, "fault", new Object[] {}, log, seed);
    }

    private static void call(LotBeliefs x, Oracle o, String name, Object[] with, List<String> log, int seed)
            throws Exception {
        asked++;
        String got = answer(x, LotBeliefs.class, name, with);
        String due = answer(o, Oracle.class, name, with);
        if (log != null) {
            log.add(name + Arrays.toString(with) + " -> " + due);
        }
        if (!got.equals(due)) {
            wrong++;
            System.out.println("seed " + seed + ": " + name + Arrays.toString(with) + " answered " + got
                    + ", due is " + due);
            if (wrong == 1 && log != null) {
                log.forEach(System.out::println);
            }
        }
    }

    private static String answer(Object on, Class<?> c, String name, Object[] with) throws Exception {
        Method m = method(c, name);
        m.setAccessible(true);
        try {
            return String.valueOf(m.invoke(on, with));
        } catch (InvocationTargetException e) {
            Class<?> k = e.getCause().getClass();
            boolean due = k == IllegalArgumentException.class || k == IllegalStateException.class
                    || k == IndexOutOfBoundsException.class;
            if (!due) {
                e.getCause().printStackTrace();
            }
            return k.getName();
        }
    }

    /** Random texts, right ones and spoilt ones. */
    private static final class Texts {
        private final Random r;

        Texts(Random r) {
            this.r = r;
        }

        String pick(String... of) {
            return of[r.nextInt(of.length)];
        }

        String blank() {
            return r.nextInt(6) == 0 ? "  ".substring(r.nextInt(2)) : "";
        }

        String sentence(int atoms, int deep) {
            int kind = deep <= 0 ? 0 : r.nextInt(9);
            switch (kind) {
                case 1:
                case 2:
                    return "not " + blank() + part(atoms, deep - 1);
                case 3:
                    return part(atoms, deep - 1) + " and " + part(atoms, deep - 1);
                case 4:
                    return part(atoms, deep - 1) + " or " + part(atoms, deep - 1);
                case 5:
                    return part(atoms, deep - 1) + " and " + part(atoms, deep - 1) + " or " + part(atoms, deep - 1);
                case 6:
                    return "if " + part(atoms, deep - 1) + " then " + part(atoms, deep - 1);
                default:
                    return blank() + (char) ('a' + r.nextInt(atoms));
            }
        }

        String part(int atoms, int deep) {
            String s = sentence(atoms, deep);
            return s.contains(" and ") || s.contains(" or ") ? "[" + blank() + s + blank() + "]" : s;
        }

        String jar() {
            for (;;) {
                int atoms = 1 + r.nextInt(6);
                StringBuilder b = new StringBuilder();
                if (r.nextInt(5) == 0) {
                    atoms = 4;
                } else {
                    b.append("atoms ").append(atoms).append(';');
                }
                int slips = r.nextInt(4) == 0 ? r.nextInt(13) : r.nextInt(8);
                int sights = r.nextInt(r.nextInt(4) == 0 ? 10 : 4);
                int salts = r.nextInt(6);
                List<String> clauses = new ArrayList<>();
                for (int i = 0; i < slips; i++) {
                    clauses.add("slip " + sentence(atoms, 2));
                }
                for (int i = 0; i < sights; i++) {
                    clauses.add("see " + r.nextInt(r.nextBoolean() ? 12 : 52) + " " + sentence(atoms, 2));
                }
                for (int i = 0; i < salts; i++) {
                    clauses.add("salt " + sentence(atoms, 1));
                }
                clauses.add("world " + r.nextInt(1 << atoms));
                clauses.add("law " + r.nextInt(5));
                java.util.Collections.shuffle(clauses, r);
                for (String c : clauses) {
                    b.append(blank()).append(c).append(blank()).append(';');
                }
                if (b.length() <= 600) {
                    return b.toString();
                }
            }
        }

        String question(int atoms) {
            String s = sentence(r.nextInt(8) == 0 ? 6 : atoms, 3);
            s = s.length() > 200 ? "a" : s;
            return r.nextInt(4) == 0 ? spoilt(s) : s;
        }

        String tongue() {
            StringBuilder b = new StringBuilder();
            int rules = r.nextInt(r.nextInt(5) == 0 ? 12 : 4);
            for (int i = 0; i < rules; i++) {
                b.append(pick("new", "old", "both")).append(' ').append(truth(2)).append(';').append(blank());
            }
            String s = b.length() > 200 ? "old age>newn;" : b.toString();
            return r.nextInt(4) == 0 ? spoilt(s) : s;
        }

        String truth(int deep) {
            switch (deep <= 0 ? 0 : r.nextInt(6)) {
                case 1:
                    return "not " + truth(deep - 1);
                case 2:
                    return "[" + truth(deep - 1) + "]";
                case 3:
                    return truth(deep - 1) + " and " + truth(deep - 1);
                case 4:
                    return truth(deep - 1) + " or " + truth(deep - 1);
                default:
                    return number(2) + pick("<", ">", "=") + number(2);
            }
        }

        String number(int deep) {
            switch (deep <= 0 ? r.nextInt(2) : r.nextInt(6)) {
                case 0:
                    return pick("0", "1", "2", "3", "5", "999", "007", "1000");
                case 1:
                    return pick("age", "hurts", "olds", "news", "oldn", "newn", "week", "held", "left", "shared");
                case 2:
                    return number(deep - 1) + blank() + "+" + blank() + number(deep - 1);
                case 3:
                    return number(deep - 1) + "-" + number(deep - 1);
                case 4:
                    return number(deep - 1) + "*" + number(deep - 1);
                default:
                    return "(" + number(deep - 1) + ")";
            }
        }

        String spoilt(String s) {
            StringBuilder b = new StringBuilder(s);
            int times = 1 + r.nextInt(2);
            for (int i = 0; i < times && b.length() > 0; i++) {
                int at = r.nextInt(b.length());
                switch (r.nextInt(4)) {
                    case 0:
                        b.deleteCharAt(at);
                        break;
                    case 1:
                        b.setCharAt(at, "abcdefg;[]()not 0123456789<>=+-*A\t\u0000\u00ff".charAt(r.nextInt(36)));
                        break;
                    case 2:
                        b.setLength(at);
                        break;
                    default:
                        b.insert(at, pick("[", "not ", "if a then ", " and ", "slip a;", "atoms 3;", "salt b;",
                                "see 3 a;", "(", "law 9;", "world 77;"));
                }
            }
            int most = s.length() > 200 ? 600 : 200;
            return b.length() > most ? b.substring(0, most) : b.toString();
        }
    }
}
