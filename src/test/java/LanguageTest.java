import com.sun.source.tree.AnnotationTree;
import com.sun.source.tree.BinaryTree;
import com.sun.source.tree.BlockTree;
import com.sun.source.tree.ClassTree;
import com.sun.source.tree.CompilationUnitTree;
import com.sun.source.tree.CompoundAssignmentTree;
import com.sun.source.tree.DoWhileLoopTree;
import com.sun.source.tree.EnhancedForLoopTree;
import com.sun.source.tree.ExpressionTree;
import com.sun.source.tree.ForLoopTree;
import com.sun.source.tree.InstanceOfTree;
import com.sun.source.tree.LambdaExpressionTree;
import com.sun.source.tree.LiteralTree;
import com.sun.source.tree.MemberReferenceTree;
import com.sun.source.tree.MethodInvocationTree;
import com.sun.source.tree.MethodTree;
import com.sun.source.tree.NewArrayTree;
import com.sun.source.tree.NewClassTree;
import com.sun.source.tree.SynchronizedTree;
import com.sun.source.tree.ThrowTree;
import com.sun.source.tree.Tree;
import com.sun.source.tree.TryTree;
import com.sun.source.tree.TypeCastTree;
import com.sun.source.tree.VariableTree;
import com.sun.source.tree.WhileLoopTree;
import com.sun.source.util.JavacTask;
import com.sun.source.util.TreePath;
import com.sun.source.util.TreePathScanner;
import com.sun.source.util.Trees;
import java.io.IOException;
import java.nio.file.Files;
import java.nio.file.Path;
import java.util.ArrayList;
import java.util.HashMap;
import java.util.HashSet;
import java.util.LinkedHashMap;
import java.util.LinkedHashSet;
import java.util.List;
import java.util.Map;
import java.util.Set;
import java.util.stream.Stream;
import javax.lang.model.element.Element;
import javax.lang.model.element.ExecutableElement;
import javax.lang.model.element.Modifier;
import javax.lang.model.element.TypeElement;
import javax.lang.model.type.TypeKind;
import javax.lang.model.type.TypeMirror;
import javax.tools.JavaCompiler;
import javax.tools.ToolProvider;

/**
 * Holds the source against the rules of ../shared/LANGUAGE.md that can be seen on its syntax tree; the
 * number of the rule stands ahead of what is told. The class keeps more narrowly to them than it has to
 * (no try, no object made by a call), and so does this test.
 */
public final class LanguageTest {
    private static final Path SOURCE = Path.of("src/main/java/LotBeliefs.java");
    private static final Set<String> LIBRARY = Set.of("java.lang.String.length()", "java.lang.String.charAt(int)",
            "java.lang.Integer.bitCount(int)", "java.lang.Long.bitCount(long)", "java.lang.Math.max(int,int)",
            "java.lang.Math.min(int,int)");
    private static final Set<String> THROWN = Set.of("java.lang.IllegalArgumentException",
            "java.lang.IllegalStateException", "java.lang.IndexOutOfBoundsException");
    private static final Set<TypeKind> NUMBERS = Set.of(TypeKind.INT, TypeKind.LONG, TypeKind.BYTE,
            TypeKind.CHAR, TypeKind.BOOLEAN);

    public static void main(String[] args) throws Exception {
        List<String> faults = faultsOf(Files.readString(SOURCE));
        for (String fault : faults) {
            System.out.println(fault);
        }
        int blind = readsItself();
        System.out.println(faults.isEmpty() && blind == 0 ? "the source keeps to its language"
                : faults.size() + " things wrong, " + blind + " not seen");
        if (!faults.isEmpty() || blind != 0) {
            System.exit(1);
        }
    }

    /** Small sources that break a rule: how many of them are let through. */
    private static int readsItself() throws IOException {
        String[][] broken = {
            {"rule 1", "int open() { return 0; }"},
            {"rule 1", "public int shown() { return 0; } private static class A { int shown() { return 1; } }"},
            {"rule 2", "private class A { }"},
            {"rule 2", "private Runnable r = () -> { };"},
            {"rule 2", "private void f() { class A { } }"},
            {"rule 2", "private Object a = new Object() { };"},
            {"rule 3", "private int[][][] a = new int[1][1][1];"},
            {"rule 3", "private double a = 0;"},
            {"rule 3", "private java.util.Random a = null;"},
            {"rule 4", "private long f() { return System.nanoTime(); }"},
            {"rule 4", "private int f(int a) { return Math.addExact(a, 1); }"},
            {"rule 4", "private String a = \"\\u00e9\";"},
            {"rule 5", "private static int a = 0;"},
            {"rule 5", "static { }"},
            {"rule 5", "private static final int[] A = new int[3];"},
            {"rule 6", "private void f() { throw new NullPointerException(\"a\"); }"},
            {"rule 6", "private LotBeliefs() { throw new IllegalStateException(\"a\"); }"},
            {"rule 6", "private void f(String s) { throw new IllegalStateException(s); }"},
            {"rule 6", "private void f() { try { g(); } catch (IllegalStateException e) { } } private void g() { }"},
            {"rule 6", "private boolean f(String a, String b) { return a == b; }"},
            {"rule 6", "private static final class A { public int hashCode() { return 1; } }"},
            {"rule 7", "private int f(int a, int b) { return a / b; }"},
            {"rule 7", "private int f(int a, int b) { return a % b; }"},
            {"rule 8", "private int f(int a) { return a < 1 ? 0 : f(a - 1); }"},
            {"rule 9", "private int f(int a) { while (a != 3) { a++; } return a; }"},
            {"rule 9", "private int f(int a) { for (;;) { return a; } }"},
            {"rule 10", "private String f(String a) { return a + \"b\"; }"},
            {"rule 11", "private int f(int a, int b, int c, int d, int e, int g, int h, int i) { return 0; }"},
            {"rule 11", "private int f(int a) { " + "a++;\n".repeat(70) + " return a; }"},
            {"rule 11", deep(9)},
            {"rule 11", "private int a0, a1, a2, a3, a4, a5, a6, a7, a8, a9, b0, b1, b2, b3, b4, b5, b6, b7, b8,"
                    + " b9, c0;"},
            {"rule 12", "private int[] f() { return new int[3]; }"},
            {"rule 12", "private int f() { int[] a = {3}; return 0; }"},
        };
        int blind = 0;
        for (String[] one : broken) {
            List<String> faults = faultsOf("public final class LotBeliefs { " + one[1] + " }");
            if (faults.stream().noneMatch(f -> f.startsWith(one[0] + ":"))) {
                System.out.println("not seen: " + one[0] + ", " + one[1] + " " + faults);
                blind++;
            }
        }
        List<String> good = faultsOf("public final class LotBeliefs { private int[] a = new int[3]; "
                + deep(8) + " private int h(int b) { for (int i = 0; i < 3; i++) { b += i; } return b % 3; } }");
        if (!good.isEmpty()) {
            System.out.println("seen where nothing is: " + good);
            blind++;
        }
        return blind;
    }

    private static String deep(int calls) {
        StringBuilder b = new StringBuilder();
        for (int i = 1; i < calls; i++) {
            b.append("private int f").append(i).append("() { return f").append(i + 1).append("(); } ");
        }
        return b.append("private int f").append(calls).append("() { return 0; }").toString();
    }

    private static List<String> faultsOf(String source) throws IOException {
        Path room = Files.createTempDirectory("language");
        try {
            Path file = room.resolve("LotBeliefs.java");
            Files.writeString(file, source);
            JavaCompiler compiler = ToolProvider.getSystemJavaCompiler();
            var files = compiler.getStandardFileManager(null, null, null);
            JavacTask task = (JavacTask) compiler.getTask(null, files, d -> { }, List.of("-proc:none"), null,
                    files.getJavaFileObjects(file));
            Reader reader = null;
            for (CompilationUnitTree unit : task.parse()) {
                task.analyze();
                reader = new Reader(unit, Trees.instance(task));
                reader.scan(unit, null);
                reader.weighCalls();
            }
            return reader.faults;
        } finally {
            try (Stream<Path> made = Files.list(room)) {
                for (Path p : made.toList()) {
                    Files.delete(p);
                }
            }
            Files.delete(room);
        }
    }

    private static final class Reader extends TreePathScanner<Void, Void> {
        final List<String> faults = new ArrayList<>();
        private final CompilationUnitTree unit;
        private final Trees trees;
        private final Map<Element, Set<Element>> calls = new LinkedHashMap<>();
        private final Set<Element> recursive = new LinkedHashSet<>();
        private final Map<Element, Integer> depths = new HashMap<>();
        private int classes = 0;

        Reader(CompilationUnitTree unit, Trees trees) {
            this.unit = unit;
            this.trees = trees;
        }

        private void need(boolean good, int rule, Tree at, String what) {
            if (!good) {
                long line = unit.getLineMap().getLineNumber(trees.getSourcePositions().getStartPosition(unit, at));
                faults.add("rule " + rule + ": line " + line + ": " + what);
            }
        }

        private Element elementHere() {
            return trees.getElement(getCurrentPath());
        }

        private TypeMirror typeOf(Tree tree) {
            return trees.getTypeMirror(new TreePath(getCurrentPath(), tree));
        }

        private Tree around(Class<? extends Tree> kind) {
            for (TreePath p = getCurrentPath().getParentPath(); p != null; p = p.getParentPath()) {
                if (kind.isInstance(p.getLeaf())) {
                    return p.getLeaf();
                }
            }
            return null;
        }

        // ---- classes, fields, methods ----

        @Override
        public Void visitCompilationUnit(CompilationUnitTree tree, Void v) {
            need(tree.getImports().isEmpty() && tree.getPackage() == null, 4, tree, "a package or an import");
            need(tree.getTypeDecls().size() == 1, 1, tree, "more than one class outside");
            return super.visitCompilationUnit(tree, v);
        }

        @Override
        public Void visitClass(ClassTree tree, Void v) {
            classes++;
            need(classes <= 12, 11, tree, "a thirteenth class");
            Set<Modifier> flags = tree.getModifiers().getFlags();
            boolean outside = getCurrentPath().getParentPath().getLeaf() instanceof CompilationUnitTree;
            need(outside || getCurrentPath().getParentPath().getLeaf() instanceof ClassTree, 2, tree, "a local class");
            need(outside || flags.contains(Modifier.STATIC), 2, tree, "a class inside that is not static");
            need(outside || !flags.contains(Modifier.PUBLIC) && !flags.contains(Modifier.PROTECTED), 1, tree,
                    "a class inside that is open");
            int fields = 0;
            for (Tree member : tree.getMembers()) {
                if (member instanceof VariableTree f && !f.getModifiers().getFlags().contains(Modifier.STATIC)) {
                    fields++;
                }
            }
            need(fields <= 20, 11, tree, "fields: " + fields);
            return super.visitClass(tree, v);
        }

        @Override
        public Void visitVariable(VariableTree tree, Void v) {
            Set<Modifier> flags = tree.getModifiers().getFlags();
            needType(trees.getTypeMirror(getCurrentPath()), tree);
            if (getCurrentPath().getParentPath().getLeaf() instanceof ClassTree around) {
                boolean shared = flags.contains(Modifier.STATIC);
                need(!shared || flags.contains(Modifier.FINAL), 5, tree, "static and not final");
                need(!shared || tree.getInitializer() != null
                        && trees.getTypeMirror(getCurrentPath()).getKind().isPrimitive(), 5, tree,
                        "static and no plain constant");
                boolean outside = around.getSimpleName().contentEquals("LotBeliefs");
                need(!outside || flags.contains(Modifier.PRIVATE) || flags.contains(Modifier.PUBLIC) && shared, 1,
                        tree, "a field of the face that is open");
            }
            return super.visitVariable(tree, v);
        }

        @Override
        public Void visitBlock(BlockTree tree, Void v) {
            need(!(getCurrentPath().getParentPath().getLeaf() instanceof ClassTree), 5, tree, "an initialiser block");
            return super.visitBlock(tree, v);
        }

        @Override
        public Void visitMethod(MethodTree tree, Void v) {
            ExecutableElement here = (ExecutableElement) elementHere();
            calls.computeIfAbsent(here, k -> new LinkedHashSet<>());
            TypeElement owner = (TypeElement) here.getEnclosingElement();
            boolean outside = owner.getSimpleName().contentEquals("LotBeliefs");
            Set<Modifier> flags = here.getModifiers();
            long start = trees.getSourcePositions().getStartPosition(unit, tree);
            if (start >= 0) {
                need(!outside || flags.contains(Modifier.PUBLIC) || flags.contains(Modifier.PRIVATE), 1, tree,
                        "a method of the face's class that is neither public nor private");
                need(outside ? flags.contains(Modifier.PUBLIC) || !bearsPublicName(here) : !bearsPublicName(here), 1,
                        tree, "bears the name of a public method");
            }
            String name = here.getSimpleName().toString();
            need(!Set.of("equals", "hashCode", "toString", "finalize").contains(name), 6, tree, name + " of its own");
            need(tree.getParameters().size() <= 7, 11, tree, "parameters: " + tree.getParameters().size());
            long lines = lineOf(trees.getSourcePositions().getEndPosition(unit, tree)) - lineOf(start) + 1;
            need(start < 0 || lines <= 60, 11, tree, "lines: " + lines);
            if (here.getReturnType().getKind() != TypeKind.VOID) {
                needType(here.getReturnType(), tree);
            }
            return super.visitMethod(tree, v);
        }

        private long lineOf(long place) {
            return place < 0 ? 0 : unit.getLineMap().getLineNumber(place);
        }

        private boolean bearsPublicName(ExecutableElement method) {
            Element top = method;
            while (top.getEnclosingElement() instanceof TypeElement outer) {
                top = outer;
            }
            for (Element e : top.getEnclosedElements()) {
                if (e instanceof ExecutableElement && e != method && e.getModifiers().contains(Modifier.PUBLIC)
                        && e.getSimpleName().equals(method.getSimpleName())
                        && !e.getSimpleName().contentEquals("<init>")) {
                    return true;
                }
            }
            return false;
        }

        private void needType(TypeMirror type, Tree at) {
            String name = String.valueOf(type);
            boolean row = name.endsWith("[]");
            String each = row ? name.substring(0, name.length() - 2) : name;
            boolean number = NUMBERS.stream().anyMatch(k -> k.name().toLowerCase().equals(each));
            boolean own = each.startsWith("LotBeliefs");
            need(number || own || !row && each.equals("java.lang.String"), 3, at, "a type: " + name);
        }

        // ---- expressions ----

        @Override
        public Void visitMethodInvocation(MethodInvocationTree tree, Void v) {
            if (elementHere() instanceof ExecutableElement to) {
                String owner = to.getEnclosingElement().toString();
                boolean own = owner.startsWith("LotBeliefs");
                boolean constructor = to.getSimpleName().contentEquals("<init>");
                need(own || constructor || LIBRARY.contains(owner + "." + to), 4, tree, "calls " + owner + "." + to);
                noteCall(to);
            }
            return super.visitMethodInvocation(tree, v);
        }

        private void noteCall(Element to) {
            Tree method = around(MethodTree.class);
            if (method != null) {
                Element from = trees.getElement(trees.getPath(unit, method));
                calls.computeIfAbsent(from, k -> new LinkedHashSet<>()).add(to);
            }
        }

        @Override
        public Void visitNewClass(NewClassTree tree, Void v) {
            need(tree.getClassBody() == null, 2, tree, "an anonymous class");
            boolean thrown = getCurrentPath().getParentPath().getLeaf() instanceof ThrowTree;
            needMade(thrown, tree);
            need(thrown || String.valueOf(typeOf(tree.getIdentifier())).startsWith("LotBeliefs"), 4, tree,
                    "makes " + tree.getIdentifier());
            if (elementHere() != null) {
                noteCall(elementHere());
            }
            return super.visitNewClass(tree, v);
        }

        @Override
        public Void visitNewArray(NewArrayTree tree, Void v) {
            needMade(false, tree);
            return super.visitNewArray(tree, v);
        }

        /** What is made is made once, with its object: so a run of calls makes nothing more. */
        private void needMade(boolean thrown, Tree tree) {
            Tree method = around(MethodTree.class);
            boolean ahead = method == null || ((MethodTree) method).getName().contentEquals("<init>");
            need(thrown || ahead, 12, tree, "a call makes an object");
        }

        @Override
        public Void visitThrow(ThrowTree tree, Void v) {
            ExpressionTree what = tree.getExpression();
            boolean good = what instanceof NewClassTree made
                    && THROWN.contains(String.valueOf(typeOf(made.getIdentifier())))
                    && made.getArguments().size() == 1 && made.getArguments().get(0) instanceof LiteralTree;
            need(good, 6, tree, "throws " + what);
            MethodTree method = (MethodTree) around(MethodTree.class);
            need(method == null || !method.getName().contentEquals("<init>"), 6, tree, "a throw in a constructor");
            return super.visitThrow(tree, v);
        }

        @Override
        public Void visitLiteral(LiteralTree tree, Void v) {
            if (tree.getValue() instanceof String s) {
                need(s.chars().allMatch(c -> c >= 1 && c < 128), 4, tree, "a sign beyond 127");
            }
            need(tree.getKind() != Tree.Kind.NULL_LITERAL, 7, tree, "null: no reference is null here");
            need(tree.getKind() != Tree.Kind.DOUBLE_LITERAL && tree.getKind() != Tree.Kind.FLOAT_LITERAL, 3, tree,
                    "a number with a point");
            return super.visitLiteral(tree, v);
        }

        @Override
        public Void visitBinary(BinaryTree tree, Void v) {
            String left = String.valueOf(typeOf(tree.getLeftOperand()));
            String right = String.valueOf(typeOf(tree.getRightOperand()));
            boolean text = left.equals("java.lang.String") || right.equals("java.lang.String");
            need(!text || tree.getKind() != Tree.Kind.PLUS, 10, tree, "texts joined by +");
            need(!text || tree.getKind() == Tree.Kind.PLUS, 6, tree, "texts compared by their places");
            if (tree.getKind() == Tree.Kind.DIVIDE || tree.getKind() == Tree.Kind.REMAINDER) {
                needDivisor(tree.getRightOperand());
            }
            return super.visitBinary(tree, v);
        }

        @Override
        public Void visitCompoundAssignment(CompoundAssignmentTree tree, Void v) {
            need(!String.valueOf(typeOf(tree.getVariable())).equals("java.lang.String"), 10, tree, "texts joined");
            if (tree.getKind() == Tree.Kind.DIVIDE_ASSIGNMENT || tree.getKind() == Tree.Kind.REMAINDER_ASSIGNMENT) {
                needDivisor(tree.getExpression());
            }
            return super.visitCompoundAssignment(tree, v);
        }

        /** A number that is none, or the counter of a loop that stays at 1 or above, and one more. */
        private void needDivisor(ExpressionTree divisor) {
            String told = divisor.toString().replaceAll("[()\\s]", "");
            boolean number = told.matches("[1-9]\\d*");
            boolean counted = false;
            if (told.matches("\\w+\\+1") && around(ForLoopTree.class) instanceof ForLoopTree loop) {
                String name = told.substring(0, told.length() - 2);
                counted = String.valueOf(loop.getCondition()).matches("\\(?" + name + " >= [0-9]+\\)?");
            }
            need(number || counted, 7, divisor, "divides by " + divisor);
        }

        // ---- statements ----

        @Override
        public Void visitForLoop(ForLoopTree tree, Void v) {
            needEnd(tree.getCondition(), tree);
            return super.visitForLoop(tree, v);
        }

        @Override
        public Void visitWhileLoop(WhileLoopTree tree, Void v) {
            needEnd(tree.getCondition(), tree);
            return super.visitWhileLoop(tree, v);
        }

        @Override
        public Void visitDoWhileLoop(DoWhileLoopTree tree, Void v) {
            needEnd(tree.getCondition(), tree);
            return super.visitDoWhileLoop(tree, v);
        }

        /** The condition compares a counter with a bound. */
        private void needEnd(ExpressionTree condition, Tree loop) {
            boolean bound = condition != null && String.valueOf(condition).matches("(?s).*\\w (<|<=|>|>=) \\w.*");
            need(bound, 9, loop, "a loop without an end that can be seen: " + condition);
        }

        @Override
        public Void visitTry(TryTree tree, Void v) {
            need(false, 6, tree, "try");
            return super.visitTry(tree, v);
        }

        @Override
        public Void visitSynchronized(SynchronizedTree tree, Void v) {
            need(false, 6, tree, "synchronized");
            return super.visitSynchronized(tree, v);
        }

        @Override
        public Void visitLambdaExpression(LambdaExpressionTree tree, Void v) {
            need(false, 2, tree, "a lambda");
            return super.visitLambdaExpression(tree, v);
        }

        @Override
        public Void visitMemberReference(MemberReferenceTree tree, Void v) {
            need(false, 2, tree, "a method reference");
            return super.visitMemberReference(tree, v);
        }

        @Override
        public Void visitInstanceOf(InstanceOfTree tree, Void v) {
            need(false, 6, tree, "instanceof");
            return super.visitInstanceOf(tree, v);
        }

        @Override
        public Void visitTypeCast(TypeCastTree tree, Void v) {
            need(typeOf(tree.getType()).getKind().isPrimitive(), 7, tree, "a cast of an object");
            return super.visitTypeCast(tree, v);
        }

        @Override
        public Void visitAnnotation(AnnotationTree tree, Void v) {
            need(false, 4, tree, "an annotation");
            return super.visitAnnotation(tree, v);
        }

        @Override
        public Void visitEnhancedForLoop(EnhancedForLoopTree tree, Void v) {
            need(typeOf(tree.getExpression()).getKind() == TypeKind.ARRAY, 9, tree, "for over something else");
            return super.visitEnhancedForLoop(tree, v);
        }

        // ---- calls ----

        /** Recursion is of private static methods alone; all other calls go eight deep at most. */
        void weighCalls() {
            for (Element from : calls.keySet()) {
                if (reaches(from, from)) {
                    recursive.add(from);
                    boolean good = from.getModifiers().contains(Modifier.PRIVATE)
                            && from.getModifiers().contains(Modifier.STATIC);
                    need(good, 8, trees.getTree(from), "recursion that is not private and static: " + from);
                }
            }
            for (Element from : calls.keySet()) {
                int depth = depthOf(from);
                need(depth <= 8, 11, trees.getTree(from), from + " goes deep: " + depth);
            }
        }

        private boolean reaches(Element from, Element to) {
            Set<Element> seen = new HashSet<>();
            List<Element> open = new ArrayList<>(calls.getOrDefault(from, Set.of()));
            while (!open.isEmpty()) {
                Element next = open.remove(open.size() - 1);
                if (next.equals(to)) {
                    return true;
                }
                if (seen.add(next)) {
                    open.addAll(calls.getOrDefault(next, Set.of()));
                }
            }
            return false;
        }

        /** How many calls stand open at most, a recursion's own calls aside. */
        private int depthOf(Element from) {
            Integer known = depths.get(from);
            if (known != null) {
                return known;
            }
            depths.put(from, 0);
            int deepest = 0;
            for (Element to : calls.getOrDefault(from, Set.of())) {
                if (calls.containsKey(to)) {
                    boolean round = recursive.contains(from) && reaches(to, from);
                    deepest = Math.max(deepest, round ? 0 : depthOf(to));
                }
            }
            for (Element to : round(from)) {
                for (Element beyond : calls.get(to)) {
                    if (calls.containsKey(beyond) && !reaches(beyond, from)) {
                        deepest = Math.max(deepest, depthOf(beyond));
                    }
                }
            }
            int depth = deepest + (recursive.contains(from) ? 0 : 1);
            depths.put(from, depth);
            return depth;
        }

        /** The others of a recursion. */
        private Set<Element> round(Element from) {
            Set<Element> others = new LinkedHashSet<>();
            if (recursive.contains(from)) {
                for (Element to : recursive) {
                    if (!to.equals(from) && reaches(from, to) && reaches(to, from)) {
                        others.add(to);
                    }
                }
            }
            return others;
        }
    }
}
