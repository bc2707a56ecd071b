import java.io.IOException;
import java.io.StringWriter;
import java.lang.reflect.Method;
import java.lang.reflect.Modifier;
import java.net.URL;
import java.net.URLClassLoader;
import java.nio.file.Files;
import java.nio.file.Path;
import java.util.ArrayList;
import java.util.Comparator;
import java.util.List;
import java.util.regex.Matcher;
import java.util.regex.Pattern;
import java.util.stream.Stream;
import javax.tools.JavaCompiler;
import javax.tools.ToolProvider;

/**
 * README.md's examples are Java: they are compiled as they stand there and run from the first to the
 * last, and each call's answer is compared with what stands behind it.
 */
public final class ReadmeTest {
    private static final Path README = Path.of("README.md");
    private static final Path TESTS = Path.of("src/test/java");
    private static final Pattern BLOCK = Pattern.compile("(?ms)^```java\\n(.*?)^```$");
    private static final Pattern STATEMENT = Pattern.compile("(?s)(.*);\\s*(?://\\s*(.*?)\\s*)?");
    private static final Pattern ANSWER = Pattern.compile("(throws \\w+|[^\\s:]+)(:.*)?");
    private static final Pattern CALL = Pattern.compile("\\bx\\.(\\w+)\\(");

    private static int wrong = 0;

    public static void main(String[] args) throws Exception {
        String readme = Files.readString(README);
        List<String> faults = faultsOf(readme);
        for (String fault : faults) {
            need(false, "README.md: " + fault);
        }
        readsItself();
        everyCallIsShown(readme);
        everyTestIsTold(readme);
        System.out.println(wrong == 0 ? "README.md tells what is so" : wrong + " things wrong in README.md");
        if (wrong != 0) {
            System.exit(1);
        }
    }

    private static void need(boolean good, String what) {
        if (!good) {
            wrong++;
            System.out.println(what);
        }
    }

    /** A README that is wrong is told to be wrong: else this test would bear nothing. */
    private static void readsItself() throws Exception {
        String head = "```java\nLotBeliefs x = new LotBeliefs();\n";
        need(faultsOf(head + "x.told(0); // 4: ATOMS\n```\n").isEmpty(), "a right answer is taken as wrong");
        need(faultsOf(head + "x.told(0); // 5: ATOMS\n```\n").size() == 1, "a wrong answer is taken as right");
        need(faultsOf(head + "x.left(0); // 0xffff\n```\n").isEmpty(), "a right set is taken as wrong");
        need(faultsOf(head + "x.left(0); // 0xfffe\n```\n").size() == 1, "a wrong set is taken as right");
        need(faultsOf(head + "x.told(6); // 4\n```\n").size() == 1, "a refusal is taken as an answer");
        need(faultsOf(head + "x.told(0); // throws IllegalArgumentException\n```\n").size() == 1,
                "an answer is taken as a refusal");
        need(faultsOf(head + "x.told(6); // throws IllegalArgumentException: none\n```\n").isEmpty(),
                "a right refusal is taken as wrong");
        need(faultsOf(head + "x.told(6); // throws IllegalStateException: none\n```\n").size() == 1,
                "another exception is taken as the right one");
        need(faultsOf(head + "x.told(0);\nx.told(0); // 4\n```\n").size() == 1, "a call without an answer is passed over");
        need(faultsOf(head + "x.tell(0); // 4\n```\n").size() == 1, "what does not compile is passed over");
        need(faultsOf("no examples\n").size() == 1, "a README without examples is passed over");
    }

    private static void everyCallIsShown(String readme) {
        List<String> shown = new ArrayList<>();
        Matcher block = BLOCK.matcher(readme);
        while (block.find()) {
            Matcher call = CALL.matcher(block.group(1));
            while (call.find()) {
                shown.add(call.group(1));
            }
        }
        for (Method m : LotBeliefs.class.getDeclaredMethods()) {
            if (Modifier.isPublic(m.getModifiers())) {
                need(shown.contains(m.getName()), "README.md shows no call of " + m.getName());
            }
        }
    }

    private static void everyTestIsTold(String readme) throws IOException {
        try (Stream<Path> files = Files.list(TESTS)) {
            for (Path file : files.toList()) {
                String name = file.getFileName().toString().replace(".java", "");
                need(readme.contains(name), "README.md does not tell of " + name);
            }
        }
        Matcher named = Pattern.compile("(?<![*\\w])[A-Z]\\w*Test\\b").matcher(readme);
        while (named.find()) {
            need(Files.exists(TESTS.resolve(named.group() + ".java")), "there is no test " + named.group());
        }
        need(readme.contains(".ci/run") && Files.isExecutable(Path.of(".ci/run")),
                "README.md does not tell how the tests are run");
    }

    // ---- examples as a program ----

    /** What the examples say that is not so. */
    private static List<String> faultsOf(String readme) throws Exception {
        List<String> faults = new ArrayList<>();
        String program = programOf(readme, faults);
        if (faults.isEmpty()) {
            runs(program, faults);
        }
        return faults;
    }

    private static String programOf(String readme, List<String> faults) {
        StringBuilder members = new StringBuilder();
        StringBuilder body = new StringBuilder();
        int answers = 0;
        Matcher block = BLOCK.matcher(readme);
        while (block.find()) {
            if (block.group(1).contains("static ")) {
                members.append(block.group(1));
            } else {
                answers += addStatements(block.group(1), body, faults);
            }
        }
        if (answers == 0) {
            faults.add("no answer is shown");
        }
        return "import java.util.List;\nimport java.util.concurrent.Callable;\npublic final class Examples {\n"
                + members
                + "static void due(List<String> faults, String call, String want, Callable<?> c) {\n"
                + "String got;\n"
                + "try { got = String.valueOf(c.call()); }\n"
                + "catch (Exception e) { got = \"throws \" + e.getClass().getSimpleName(); }\n"
                + "if (want.startsWith(\"0x\") && !got.startsWith(\"throws\")) {\n"
                + "got = \"0x\" + Long.toHexString(Long.parseLong(got)); }\n"
                + "if (!got.equals(want)) { faults.add(call + \" is told to be \" + want + \", but \" + got); }\n"
                + "}\n"
                + "public static void run(List<String> faults) {\n" + body + "}\n}\n";
    }

    /** Adds a block's statements, one of them in a line or in more: how many have answers. */
    private static int addStatements(String block, StringBuilder body, List<String> faults) {
        int answers = 0;
        StringBuilder open = new StringBuilder();
        for (String line : block.split("\n")) {
            open.append(line.strip()).append(' ');
            Matcher m = STATEMENT.matcher(line);
            if (!m.matches()) {
                continue;
            }
            Matcher whole = STATEMENT.matcher(open.toString());
            open.setLength(0);
            if (!whole.matches()) {
                faults.add("is no statement: " + line);
            } else if (whole.group(2) == null) {
                body.append(whole.group(1)).append(";\n");
                if (CALL.matcher(whole.group(1)).find()) {
                    faults.add("has no answer: " + line);
                }
            } else {
                answers++;
                addAnswered(whole.group(1).strip(), whole.group(2), body, faults);
            }
        }
        if (!open.toString().isBlank()) {
            faults.add("is not at its end: " + open);
        }
        return answers;
    }

    private static void addAnswered(String call, String told, StringBuilder body, List<String> faults) {
        Matcher answer = ANSWER.matcher(told);
        if (!answer.matches()) {
            faults.add("is no answer: " + told);
            return;
        }
        body.append("due(faults, ").append(quoted(call)).append(", ").append(quoted(answer.group(1)))
                .append(", () -> ").append(call).append(");\n");
    }

    private static String quoted(String text) {
        return '"' + text.replace("\\", "\\\\").replace("\"", "\\\"") + '"';
    }

    private static void runs(String program, List<String> faults) throws Exception {
        Path room = Files.createTempDirectory("readme");
        try {
            Path source = room.resolve("Examples.java");
            Files.writeString(source, program);
            StringWriter told = new StringWriter();
            JavaCompiler compiler = ToolProvider.getSystemJavaCompiler();
            var files = compiler.getStandardFileManager(null, null, null);
            List<String> options = List.of("-cp", System.getProperty("java.class.path"), "-d", room.toString());
            if (!compiler.getTask(told, files, null, options, null, files.getJavaFileObjects(source)).call()) {
                faults.add("does not compile: " + told);
                return;
            }
            try (URLClassLoader loader = new URLClassLoader(new URL[] {room.toUri().toURL()})) {
                loader.loadClass("Examples").getMethod("run", List.class).invoke(null, faults);
            }
        } finally {
            try (Stream<Path> made = Files.walk(room)) {
                for (Path p : made.sorted(Comparator.reverseOrder()).toList()) {
                    Files.delete(p);
                }
            }
        }
    }
}
