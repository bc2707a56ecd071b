import java.io.IOException;
import java.lang.management.ManagementFactory;
import java.lang.reflect.Constructor;
import java.lang.reflect.Field;
import java.lang.reflect.Method;
import java.lang.reflect.Modifier;
import java.nio.file.Files;
import java.nio.file.Path;
import java.util.ArrayList;
import java.util.List;
import java.util.Map;
import java.util.Set;
import java.util.TreeMap;
import java.util.TreeSet;
import java.util.regex.Matcher;
import java.util.regex.Pattern;

/** The face is the document's and nothing more, the source keeps to the language, no call makes objects. */
public final class FaceTest {
    private static final Path DOC = Path.of("../shared/DOC.md");
    private static final Path SOURCE = Path.of("src/main/java/LotBeliefs.java");
    private static int wrong = 0;

    public static void main(String[] args) throws Exception {
        face();
        sizes();
        language();
        room();
        System.out.println(wrong == 0 ? "the face and the source are as they should be" : wrong + " things wrong");
        if (wrong != 0) {
            System.exit(1);
        }
    }

    private static void need(boolean good, String what) {
        if (!good) {
            wrong++;
            System.out.println(what);
        }
    }

    private static String shape(Method m) {
        StringBuilder b = new StringBuilder(m.getReturnType() + " " + m.getName() + "(");
        for (Class<?> p : m.getParameterTypes()) {
            b.append(p).append(' ');
        }
        b.append(')');
        for (Class<?> e : m.getExceptionTypes()) {
            b.append(' ').append(e.getSimpleName());
        }
        return b.toString();
    }

    private static Set<String> told() throws IOException {
        Set<String> r = new TreeSet<>();
        Matcher m = Pattern.compile("    public (int|long|boolean) (\\w+)\\(([^)]*)\\)(?: throws ([^;]*))?;")
                .matcher(Files.readString(DOC));
        while (m.find()) {
            StringBuilder b = new StringBuilder(m.group(1) + " " + m.group(2) + "(");
            for (String p : m.group(3).isEmpty() ? new String[0] : m.group(3).split(", ")) {
                b.append(p.split(" ")[0]).append(' ');
            }
            b.append(')');
            for (String e : m.group(4) == null ? new String[0] : m.group(4).split(", ")) {
                b.append(' ').append(e);
            }
            r.add(b.toString());
        }
        return r;
    }

    private static void face() throws IOException {
        int modifiers = LotBeliefs.class.getModifiers();
        need(Modifier.isPublic(modifiers) && Modifier.isFinal(modifiers), "the class is not public and final");
        Set<String> here = new TreeSet<>();
        Set<String> open = new TreeSet<>();
        Set<String> shut = new TreeSet<>();
        for (Method m : LotBeliefs.class.getDeclaredMethods()) {
            if (Modifier.isPublic(m.getModifiers())) {
                here.add(shape(m));
                open.add(m.getName());
            } else {
                need(Modifier.isPrivate(m.getModifiers()), "not private: " + m);
                shut.add(m.getName());
            }
        }
        Set<String> told = told();
        need(told.size() == 58, "methods told: " + told.size());
        need(told.equals(here), "told " + told + " but here " + here);
        shut.retainAll(open);
        need(shut.isEmpty(), "private and public: " + shut);
        for (Field f : LotBeliefs.class.getDeclaredFields()) {
            boolean constant = f.getName().equals("NONE");
            need(constant ? Modifier.isPublic(f.getModifiers()) : Modifier.isPrivate(f.getModifiers()),
                    "open or shut: " + f);
        }
        for (Constructor<?> c : LotBeliefs.class.getDeclaredConstructors()) {
            need(Modifier.isPublic(c.getModifiers()) && c.getParameterCount() == 0, "constructor: " + c);
        }
        for (Class<?> c : LotBeliefs.class.getDeclaredClasses()) {
            need(Modifier.isStatic(c.getModifiers()) && !Modifier.isPublic(c.getModifiers()), "class: " + c);
            for (Method m : c.getDeclaredMethods()) {
                need(!open.contains(m.getName()), "a method inside with the name of a public one: " + m);
            }
        }
    }

    /** At most twelve classes, twenty fields beside constants, seven parameters; what is static is constant. */
    private static void sizes() {
        List<Class<?>> all = new ArrayList<>(List.of(LotBeliefs.class.getDeclaredClasses()));
        all.add(LotBeliefs.class);
        need(all.size() <= 12, "classes: " + all.size());
        for (Class<?> c : all) {
            int fields = 0;
            for (Field f : c.getDeclaredFields()) {
                boolean shared = Modifier.isStatic(f.getModifiers());
                fields += shared ? 0 : 1;
                need(!shared || Modifier.isFinal(f.getModifiers()), "static and not final: " + f);
            }
            need(fields <= 20, c + " has fields: " + fields);
            for (Method m : c.getDeclaredMethods()) {
                need(m.getParameterCount() <= 7, "parameters: " + m);
            }
        }
    }

    private static void language() throws IOException {
        String source = Files.readString(SOURCE);
        String code = source.replaceAll("(?s)/\\*.*?\\*/", "").replaceAll("//[^\\n]*", "");
        for (String word : new String[] {"import", "package", "->", "::", "catch", "try", "finally", "synchronized",
            "assert", "instanceof", "\" +", "+ \"", "static {", "finalize", "volatile", "transient", "System.", "Exact", "double", "float", "@", "protected"}) {
            need(!code.contains(word), "in the source: " + word);
        }
        need(code.chars().allMatch(c -> c < 128), "a sign above 127 in the source");
        Map<String, String> thrown = new TreeMap<>();
        Matcher m = Pattern.compile("throw new (\\w+)\\(").matcher(code);
        while (m.find()) {
            thrown.put(m.group(1), "");
        }
        need(thrown.keySet().equals(Set.of("IllegalArgumentException", "IllegalStateException",
                "IndexOutOfBoundsException")), "thrown: " + thrown.keySet());
        int longest = 0;
        int open = 0;
        for (String line : source.split("\n")) {
            boolean begins = line.matches(" {4,8}[a-z].*\\) .*\\{") && !line.contains(" class ");
            open = begins ? 0 : open + 1;
            longest = line.matches(" {4}( {4})?\\}") ? Math.max(longest, open) : longest;
            need(line.length() <= 120, "a long line: " + line);
        }
        need(longest <= 60, "a method of lines: " + longest);
    }

    /** What 512 calls of the dearest kinds make: nothing, but for what the machine itself may need. */
    private static void room() {
        com.sun.management.ThreadMXBean bean =
                (com.sun.management.ThreadMXBean) ManagementFactory.getThreadMXBean();
        LotBeliefs x = new LotBeliefs();
        String jar = "atoms 3;slip a;slip not a;slip b or c;slip not b;slip c and a;slip if a then b;slip not c;"
                + "salt a;salt not b;see 3 a or b;see 5 not c;world 1;law 4;";
        long least = Long.MAX_VALUE;
        for (int round = 0; round < 5; round++) {
            Feeder.feed(x, jar);
            long before = bean.getCurrentThreadAllocatedBytes();
            x.jar(jar.length());
            for (int i = 0; i < 512; i++) {
                x.world(i & 7);
                dear(x, i);
            }
            least = Math.min(least, bean.getCurrentThreadAllocatedBytes() - before);
        }
        need(least < 4096, "512 calls made bytes: " + least);
    }

    private static int dear(LotBeliefs x, int i) {
        int sum = i % 64 == 0 ? x.ends(0) + x.compared(i / 64 % 5) : 0;
        sum += x.touchy() + x.swap() + x.humble() + x.salted(3) + x.drawn(3, i, 60) + x.century(1, i, 60);
        sum += x.sets(i % 52, i % 4) + x.whole(i % 52, 1) + x.proof(5) + x.peace(4) + x.plain(i % 7);
        sum += x.war(0) + x.right(1) + x.grave(1) + x.canon(3) + x.asks(i % 52) + x.year(3) + x.killer(2);
        return sum + x.likely(3);
    }
}
