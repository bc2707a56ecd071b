import java.io.IOException;
import java.lang.management.ManagementFactory;
import java.lang.reflect.Constructor;
import java.lang.reflect.Field;
import java.lang.reflect.Method;
import java.lang.reflect.Modifier;
import java.nio.file.Files;
import java.nio.file.Path;
import java.util.Set;
import java.util.TreeSet;
import java.util.regex.Matcher;
import java.util.regex.Pattern;

/** The face is the document's and nothing more, and no call makes objects. */
public final class FaceTest {
    private static final Path DOC = Path.of("../shared/DOC.md");
    private static int wrong = 0;

    public static void main(String[] args) throws Exception {
        face();
        room();
        System.out.println(wrong == 0 ? "the face is the document's" : wrong + " things wrong");
        if (wrong != 0) {
            System.exit(1);
        }
    }

    private static void need(boolean good, String what) {
        if (!good) {
            wrong++;
            System.out.println(what);
        }
    }

    private static String shape(Method m) {
        StringBuilder b = new StringBuilder(m.getReturnType() + " " + m.getName() + "(");
        for (Class<?> p : m.getParameterTypes()) {
            b.append(p).append(' ');
        }
        b.append(')');
        for (Class<?> e : m.getExceptionTypes()) {
            b.append(' ').append(e.getSimpleName());
        }
        return b.toString();
    }

    private static Set<String> told() throws IOException {
        Set<String> r = new TreeSet<>();
        Matcher m = Pattern.compile("    public (int|long|boolean) (\\w+)\\(([^)]*)\\)(?: throws ([^;]*))?;")
                .matcher(Files.readString(DOC));
        while (m.find()) {
            StringBuilder b = new StringBuilder(m.group(1) + " " + m.group(2) + "(");
            for (String p : m.group(3).isEmpty() ? new String[0] : m.group(3).split(", ")) {
                b.append(p.split(" ")[0]).append(' ');
            }
            b.append(')');
            for (String e : m.group(4) == null ? new String[0] : m.group(4).split(", ")) {
                b.append(' ').append(e);
            }
            r.add(b.toString());
        }
        return r;
    }

    private static void face() throws IOException {
        int modifiers = LotBeliefs.class.getModifiers();
        need(Modifier.isPublic(modifiers) && Modifier.isFinal(modifiers), "the class is not public and final");
        Set<String> here = new TreeSet<>();
        Set<String> open = new TreeSet<>();
        Set<String> shut = new TreeSet<>();
        for (Method m : LotBeliefs.class.getDeclaredMethods()) {
            if (Modifier.isPublic(m.getModifiers())) {
                here.add(shape(m));
                open.add(m.getName());
            } else {
                need(Modifier.isPrivate(m.getModifiers()), "not private: " + m);
                shut.add(m.getName());
            }
        }
        Set<String> told = told();
        need(told.size() == 58, "methods told: " + told.size());
        need(told.equals(here), "told " + told + " but here " + here);
        shut.retainAll(open);
        need(shut.isEmpty(), "private and public: " + shut);
        for (Field f : LotBeliefs.class.getDeclaredFields()) {
            boolean constant = f.getName().equals("NONE");
            need(constant ? Modifier.isPublic(f.getModifiers()) : Modifier.isPrivate(f.getModifiers()),
                    "open or shut: " + f);
        }
        for (Constructor<?> c : LotBeliefs.class.getDeclaredConstructors()) {
            need(Modifier.isPublic(c.getModifiers()) && c.getParameterCount() == 0, "constructor: " + c);
        }
        for (Class<?> c : LotBeliefs.class.getDeclaredClasses()) {
            need(Modifier.isStatic(c.getModifiers()) && !Modifier.isPublic(c.getModifiers()), "class: " + c);
            for (Method m : c.getDeclaredMethods()) {
                need(!open.contains(m.getName()), "a method inside with the name of a public one: " + m);
            }
        }
    }

    /** What 512 calls of the dearest kinds make: nothing, but for what the machine itself may need. */
    private static void room() {
        com.sun.management.ThreadMXBean bean =
                (com.sun.management.ThreadMXBean) ManagementFactory.getThreadMXBean();
        LotBeliefs x = new LotBeliefs();
        String jar = "atoms 3;slip a;slip not a;slip b or c;slip not b;slip c and a;slip if a then b;slip not c;"
                + "salt a;salt not b;see 3 a or b;see 5 not c;world 1;law 4;";
        long least = Long.MAX_VALUE;
        for (int round = 0; round < 5; round++) {
            Feeder.feed(x, jar);
            long before = bean.getCurrentThreadAllocatedBytes();
            x.jar(jar.length());
            for (int i = 0; i < 512; i++) {
                x.world(i & 7);
                dear(x, i);
            }
            least = Math.min(least, bean.getCurrentThreadAllocatedBytes() - before);
        }
        need(least < 4096, "512 calls made bytes: " + least);
    }

    private static int dear(LotBeliefs x, int i) {
        int sum = i % 64 == 0 ? x.ends(0) + x.compared(i / 64 % 5) : 0;
        sum += x.touchy() + x.swap() + x.humble() + x.salted(3) + x.drawn(3, i, 60) + x.century(1, i, 60);
        sum += x.sets(i % 52, i % 4) + x.whole(i % 52, 1) + x.proof(5) + x.peace(4) + x.plain(i % 7);
        sum += x.war(0) + x.right(1) + x.grave(1) + x.canon(3) + x.asks(i % 52) + x.year(3) + x.killer(2);
        return sum + x.likely(3);
    }
}
