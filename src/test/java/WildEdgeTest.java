import java.lang.reflect.InvocationTargetException;
import java.lang.reflect.Method;
import java.lang.reflect.Modifier;
import java.util.ArrayList;
import java.util.List;

/** Wild arguments for each call, in many states: it throws just what the document lets it throw, or nothing. */
public final class WildEdgeTest {
    private static final int[] WILD = {Integer.MIN_VALUE, Integer.MIN_VALUE + 1, -601, -65, -53, -32, -2, -1, 0, 1, 2, 3, 4,
        5, 6, 7, 8, 11, 12, 13, 16, 17, 18, 31, 32, 51, 52, 53, 59, 60, 61, 63, 64, 127, 128, 200, 201, 600, 601, 4095,
        4096, 1 << 16, 1 << 30, Integer.MAX_VALUE - 1, Integer.MAX_VALUE};
    /** For calls with many arguments. */
    private static final int[] FEW = {Integer.MIN_VALUE, -1, 0, 1, 11, 12, 31, 51, 52, 53, 60, 61, Integer.MAX_VALUE};
    private static final String[] JARS = {"", "atoms 1;", "slip a;see 0 a;see 1 not a;",
        "atoms 6;" + "slip a;".repeat(11) + "slip f;" + "see 51 a;".repeat(11) + "see 0 f;" + "salt a;".repeat(5) + "law 4;",
        "slip a and not a;".repeat(12) + "law 3;", "atoms 3;slip a;slip not a;slip b or c;slip not b;salt a;world 5;law 4;",
        "atoms 2;" + "slip a;slip not a;".repeat(6) + "law 2;see 51 a;see 51 not a;" + "salt not a;".repeat(5)};

    public static void main(String[] args) {
        for (Method call : LotBeliefs.class.getDeclaredMethods()) {
            if (Modifier.isPublic(call.getModifiers())) {
                Edges.of("wild arguments: " + call.getName(), () -> everywhere(call));
            }
        }
        Edges.done();
    }

    private static void everywhere(Method call) {
        boolean dear = List.of("ends", "orders", "best", "compared", "worst").contains(call.getName());
        for (String jar : JARS) {
            String tongue = dear ? "" : "new age<held;old oldn*999*999*999*999>hurts-left;";
            LotBeliefs x = Edges.with(jar, tongue);
            int calls = 0;
            for (Object[] with : arguments(call)) {
                // no object is promised to answer behind its 512th call
                if (calls % 50 == 49) {
                    x = Edges.with(jar, tongue);
                    x.image();
                }
                one(x, call, with);
                calls++;
            }
        }
    }

    private static List<Object[]> arguments(Method call) {
        Class<?>[] types = call.getParameterTypes();
        int[] values = types.length < 3 ? WILD : types.length < 5 ? FEW : new int[] {Integer.MIN_VALUE, -1, 0x736c6970};
        List<Object[]> all = new ArrayList<>();
        all.add(new Object[types.length]);
        for (int place = 0; place < types.length; place++) {
            List<Object[]> more = new ArrayList<>();
            for (Object[] begun : all) {
                for (int value : values) {
                    Object[] with = begun.clone();
                    if (types[place] == long.class) {
                        with[place] = (long) value * 0x100000001L;
                    } else {
                        with[place] = value;
                    }
                    more.add(with);
                }
            }
            all = more;
        }
        return all;
    }

    private static void one(LotBeliefs x, Method call, Object[] with) {
        int refused = x.status(0) + x.status(1) + x.status(2);
        boolean thrown = false;
        try {
            call.invoke(x, with);
        } catch (InvocationTargetException e) {
            thrown = true;
            if (!List.of(call.getExceptionTypes()).contains(e.getCause().getClass())) {
                Edges.fail(List.of(with) + " threw " + e.getCause());
            }
        } catch (IllegalAccessException e) {
            Edges.fail("cannot be called: " + e);
        }
        Edges.due(x.status(0) + x.status(1) + x.status(2), refused + (thrown ? 1 : 0));
    }
}
