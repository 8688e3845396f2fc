import com.sun.source.tree.ClassTree;
import com.sun.source.tree.CompilationUnitTree;
import com.sun.source.tree.DoWhileLoopTree;
import com.sun.source.tree.ForLoopTree;
import com.sun.source.tree.MethodInvocationTree;
import com.sun.source.tree.MethodTree;
import com.sun.source.tree.NewArrayTree;
import com.sun.source.tree.NewClassTree;
import com.sun.source.tree.Tree;
import com.sun.source.tree.TypeCastTree;
import com.sun.source.tree.VariableTree;
import com.sun.source.tree.WhileLoopTree;
import com.sun.source.util.JavacTask;
import com.sun.source.util.TreePathScanner;
import com.sun.source.util.Trees;
import java.io.IOException;
import java.nio.file.Path;
import java.util.ArrayList;
import java.util.HashSet;
import java.util.LinkedHashSet;
import java.util.List;
import java.util.Map;
import java.util.Set;
import java.util.TreeMap;
import java.util.TreeSet;
import javax.lang.model.element.Element;
import javax.lang.model.element.ElementKind;
import javax.lang.model.element.Modifier;
import javax.lang.model.element.VariableElement;
import javax.lang.model.type.ArrayType;
import javax.lang.model.type.TypeKind;
import javax.lang.model.type.TypeMirror;
import javax.tools.JavaCompiler;
import javax.tools.StandardJavaFileManager;
import javax.tools.ToolProvider;

/** The rules of LANGUAGE.md that only the compiler's own tree tells: calls, recursion, the library, types, loops. */
public final class RulesTest {
    private static final int MOST_CALLS_DEEP = 8;
    // Each of these hands the depth on to the next; takeUnit refuses what would go deeper.
    private static final Set<String> RECURSIVE = Set.of("Reader.takeSum", "Reader.takePart", "Reader.takeUnit");
    private static final Set<String> LIBRARY = Set.of("String.charAt(int)", "String.indexOf(int)", "String.length()",
        "Arrays.fill(int[],int)", "System.arraycopy(java.lang.Object,int,java.lang.Object,int,int)",
        "Math.max(int,int)", "Math.min(int,int)", "Math.abs(int)", "Integer.bitCount(int)");
    private static final Set<TypeKind> NUMBERS = Set.of(TypeKind.INT, TypeKind.LONG, TypeKind.SHORT, TypeKind.BYTE,
        TypeKind.CHAR, TypeKind.BOOLEAN);

    private RulesTest() {
    }

    public static void main(String[] args) throws IOException {
        Path file = Path.of(args.length > 0 ? args[0] : "src/main/java/CouplesPaving.java");
        JavaCompiler compiler = ToolProvider.getSystemJavaCompiler();
        StandardJavaFileManager files = compiler.getStandardFileManager(null, null, null);
        JavacTask task = (JavacTask) compiler.getTask(null, files, null, List.of("-proc:none"), null,
            files.getJavaFileObjects(file));
        CompilationUnitTree unit = task.parse().iterator().next();
        task.analyze();
        Looker looker = new Looker(Trees.instance(task));
        looker.scan(unit, null);
        Checks.due("methods seen", looker.calls.size() > 100, true);
        // Depths have no end where another method calls itself.
        if (recursionIsKnown(looker.calls)) {
            depths(looker.calls);
        }
        Checks.finish("RulesTest");
    }

    /** Rule 8: no method comes back to itself but those that carry the depth. */
    private static boolean recursionIsKnown(Map<String, Set<String>> calls) {
        Set<String> found = new TreeSet<>();
        for (String method : calls.keySet()) {
            if (reached(calls, method).contains(method)) {
                found.add(method);
            }
        }
        boolean known = found.equals(new TreeSet<>(RECURSIVE));
        Checks.due("recursive are " + found, known, true);
        return known;
    }

    private static Set<String> reached(Map<String, Set<String>> calls, String from) {
        Set<String> seen = new HashSet<>();
        List<String> open = new ArrayList<>(calls.get(from));
        while (!open.isEmpty()) {
            String next = open.remove(open.size() - 1);
            if (seen.add(next)) {
                open.addAll(calls.getOrDefault(next, Set.of()));
            }
        }
        return seen;
    }

    /** Rule 11: calls go eight deep at most, what calls itself in a ring counted once. */
    private static void depths(Map<String, Set<String>> calls) {
        Map<String, Integer> known = new TreeMap<>();
        for (String method : calls.keySet()) {
            int deep = depth(calls, method, known);
            Checks.due(method + " goes " + deep + " calls deep", deep <= MOST_CALLS_DEEP, true);
        }
    }

    private static int depth(Map<String, Set<String>> calls, String method, Map<String, Integer> known) {
        Integer before = known.get(method);
        if (before != null) {
            return before;
        }
        boolean inRing = RECURSIVE.contains(method);
        int most = 0;
        for (String ringed : inRing ? RECURSIVE : Set.of(method)) {
            for (String next : calls.getOrDefault(ringed, Set.of())) {
                if (!inRing || !RECURSIVE.contains(next)) {
                    most = Math.max(most, depth(calls, next, known));
                }
            }
        }
        known.put(method, most + 1);
        return most + 1;
    }

    /** Gathers who calls whom, and tells what stands in the file and must not. */
    private static final class Looker extends TreePathScanner<Void, Void> {
        final Map<String, Set<String>> calls = new TreeMap<>();
        private final Trees trees;
        private String method = "";

        Looker(Trees trees) {
            this.trees = trees;
        }

        private Element element() {
            return trees.getElement(getCurrentPath());
        }

        private static boolean isOwn(Element owner) {
            Element top = owner;
            while (top.getEnclosingElement() != null && top.getEnclosingElement().getKind() != ElementKind.PACKAGE) {
                top = top.getEnclosingElement();
            }
            return top.getSimpleName().contentEquals("CouplesPaving");
        }

        private static String name(Element called) {
            return called.getEnclosingElement().getSimpleName() + "." + called.getSimpleName();
        }

        @Override
        public Void visitMethod(MethodTree node, Void nothing) {
            String outer = method;
            method = name(element());
            calls.putIfAbsent(method, new LinkedHashSet<>());
            super.visitMethod(node, nothing);
            method = outer;
            return null;
        }

        private void call(Element called) {
            if (isOwn(called)) {
                calls.computeIfAbsent(method, m -> new LinkedHashSet<>()).add(name(called));
            } else if (!called.getSimpleName().contentEquals("<init>")) {
                String told = called.getEnclosingElement().getSimpleName() + "." + called;
                Checks.due("rule 4 has " + told, LIBRARY.contains(told), true);
            }
        }

        @Override
        public Void visitMethodInvocation(MethodInvocationTree node, Void nothing) {
            call(element());
            return super.visitMethodInvocation(node, nothing);
        }

        @Override
        public Void visitNewClass(NewClassTree node, Void nothing) {
            Checks.due(method + " makes a class of its own", isOwn(element()) && node.getClassBody() == null, true);
            made();
            call(element());
            return super.visitNewClass(node, nothing);
        }

        @Override
        public Void visitNewArray(NewArrayTree node, Void nothing) {
            made();
            return super.visitNewArray(node, nothing);
        }

        private void made() {
            Checks.due(method + " makes something, and is no constructor", method.endsWith("<init>"), true);
        }

        @Override
        public Void visitVariable(VariableTree node, Void nothing) {
            VariableElement variable = (VariableElement) element();
            Checks.due("rule 3 has " + node, isFine(variable.asType(), 2), true);
            if (variable.getModifiers().contains(Modifier.STATIC)) {
                Checks.due("rule 5 has " + node, variable.getConstantValue() != null, true);
            }
            return super.visitVariable(node, nothing);
        }

        private boolean isFine(TypeMirror type, int dimensions) {
            if (type.getKind() == TypeKind.ARRAY) {
                TypeMirror part = ((ArrayType) type).getComponentType();
                boolean ofObjects = part.getKind() == TypeKind.DECLARED;
                return dimensions > 0 && (!ofObjects || dimensions == 2) && isFine(part, dimensions - 1);
            }
            String told = type.toString();
            return NUMBERS.contains(type.getKind()) || told.equals("java.lang.String") || told.startsWith("CouplesPaving");
        }

        @Override
        public Void visitTypeCast(TypeCastTree node, Void nothing) {
            Checks.due("a cast to a number: " + node, node.getType().getKind() == Tree.Kind.PRIMITIVE_TYPE, true);
            return super.visitTypeCast(node, nothing);
        }

        @Override
        public Void visitForLoop(ForLoopTree node, Void nothing) {
            boolean counts = node.getCondition() != null && !node.getUpdate().isEmpty();
            Checks.due("rule 9: a counter and a bound in " + method, counts, true);
            return super.visitForLoop(node, nothing);
        }

        @Override
        public Void visitWhileLoop(WhileLoopTree node, Void nothing) {
            Checks.due("rule 9: no while in " + method, 1, 0);
            return super.visitWhileLoop(node, nothing);
        }

        @Override
        public Void visitDoWhileLoop(DoWhileLoopTree node, Void nothing) {
            Checks.due("rule 9: no do in " + method, 1, 0);
            return super.visitDoWhileLoop(node, nothing);
        }

        @Override
        public Void visitClass(ClassTree node, Void nothing) {
            Element type = element();
            boolean plain = type.getKind() == ElementKind.CLASS && type.getModifiers().contains(Modifier.FINAL);
            Checks.due("a final class: " + type, plain, true);
            return super.visitClass(node, nothing);
        }
    }
}
