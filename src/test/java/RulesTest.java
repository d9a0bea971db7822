import com.sun.source.tree.BinaryTree;
import com.sun.source.tree.ClassTree;
import com.sun.source.tree.CompilationUnitTree;
import com.sun.source.tree.CompoundAssignmentTree;
import com.sun.source.tree.LiteralTree;
import com.sun.source.tree.MethodInvocationTree;
import com.sun.source.tree.MethodTree;
import com.sun.source.tree.NewArrayTree;
import com.sun.source.tree.NewClassTree;
import com.sun.source.tree.Tree;
import com.sun.source.tree.TypeCastTree;
import com.sun.source.tree.VariableTree;
import com.sun.source.util.JavacTask;
import com.sun.source.util.SourcePositions;
import com.sun.source.util.TreePathScanner;
import com.sun.source.util.Trees;
import java.io.IOException;
import java.io.StringWriter;
import java.nio.file.Path;
import java.util.ArrayDeque;
import java.util.Deque;
import java.util.HashMap;
import java.util.LinkedHashMap;
import java.util.LinkedHashSet;
import java.util.List;
import java.util.Map;
import java.util.Set;
import javax.lang.model.element.Element;
import javax.lang.model.element.Modifier;
import javax.lang.model.type.TypeMirror;
import javax.tools.JavaCompiler;
import javax.tools.StandardJavaFileManager;
import javax.tools.ToolProvider;

/** What of ../shared/LANGUAGE.md needs the compiler's tree to be seen: types, library, sizes, how deep calls go. */
public final class RulesTest extends TreePathScanner<Void, Void> {
    private static final int DEEPEST_CALL = 8;
    private static final int LONGEST_METHOD = 60;
    private static final int MOST_PARAMETERS = 7;
    private static final int MOST_FIELDS = 20;

    private static final Set<String> LIBRARY = Set.of("String.length", "String.charAt", "Math.max", "Math.min",
        "System.arraycopy");
    private static final Set<String> TYPES = Set.of("int", "long", "boolean", "int[]", "boolean[]", "java.lang.String");
    private static final Set<Tree.Kind> DIVISIONS = Set.of(Tree.Kind.DIVIDE, Tree.Kind.REMAINDER,
        Tree.Kind.DIVIDE_ASSIGNMENT, Tree.Kind.REMAINDER_ASSIGNMENT);

    private static final Set<String> DIVISORS = Set.of("MOST", "small", "ways", "open", "shared");

    private final Trees trees;
    private final SourcePositions positions;
    private final CompilationUnitTree unit;
    private final Map<String, Set<String>> calls = new LinkedHashMap<>();
    private final Map<String, Integer> depths = new HashMap<>();
    private final Set<String> recursive = new LinkedHashSet<>();
    private final Deque<String> methods = new ArrayDeque<>();

    private RulesTest(Trees trees, CompilationUnitTree unit) {
        this.trees = trees;
        this.positions = trees.getSourcePositions();
        this.unit = unit;
    }

    public static void main(String[] args) throws IOException {
        JavaCompiler compiler = ToolProvider.getSystemJavaCompiler();
        try (StandardJavaFileManager files = compiler.getStandardFileManager(null, null, null)) {
            JavacTask task = (JavacTask) compiler.getTask(new StringWriter(), files, null, List.of("-proc:none"), null,
                    files.getJavaFileObjects(Path.of(args[0])));
            CompilationUnitTree unit = task.parse().iterator().next();
            task.analyze();
            RulesTest test = new RulesTest(Trees.instance(task), unit);
            test.scan(unit, null);
            test.depths();
        }
        Due.end("RulesTest");
    }

    // ---- rule 11: how deep calls go; rule 8: who calls itself

    private void depths() {
        Due.holds("methods were found", calls.size() > 100);
        for (String method : calls.keySet()) {
            int depth = depthOf(method, new ArrayDeque<>());
            Due.holds(method + " goes " + depth + " deep, at the most " + DEEPEST_CALL, depth <= DEEPEST_CALL);
        }
        for (String method : recursive) {
            Due.holds(method + " calls itself, as search() alone may", method.equals("Table.search"));
        }
    }

    /** The methods that stand open at once, this one among them; a method that calls itself is looked at once. */
    private int depthOf(String method, Deque<String> open) {
        if (depths.containsKey(method)) {
            return depths.get(method);
        }
        open.push(method);
        int deepest = 0;
        for (String called : calls.getOrDefault(method, Set.of())) {
            if (open.contains(called)) {
                recursive.add(called);
            } else {
                deepest = Math.max(deepest, depthOf(called, open));
            }
        }
        open.pop();
        depths.put(method, deepest + 1);
        return deepest + 1;
    }

    @Override
    public Void visitMethod(MethodTree node, Void nothing) {
        String name = nameOf(trees.getElement(getCurrentPath()));
        int parameters = node.getParameters().size();
        Due.holds(name + " has " + parameters + " parameters", parameters <= MOST_PARAMETERS);
        long lines = lineOf(positions.getEndPosition(unit, node)) - lineOf(positions.getStartPosition(unit, node)) + 1;
        Due.holds(name + " has " + lines + " lines", lines <= LONGEST_METHOD);
        calls.put(name, new LinkedHashSet<>());
        methods.push(name);
        super.visitMethod(node, nothing);
        methods.pop();
        return null;
    }

    private long lineOf(long position) {
        return unit.getLineMap().getLineNumber(Math.max(position, 0));
    }

    // ---- rule 4: the library; rule 12: what is made, and where

    @Override
    public Void visitMethodInvocation(MethodInvocationTree node, Void nothing) {
        Element called = trees.getElement(getCurrentPath());
        String name = nameOf(called);
        if (called.getEnclosingElement().toString().startsWith("ApartGames")) {
            calls.get(methods.peek()).add(name);
        } else if (!name.equals("Object.<init>") && !name.endsWith("<init>")) {
            Due.holds(name + " is a method of the library that is used", LIBRARY.contains(name));
        }
        return super.visitMethodInvocation(node, nothing);
    }

    @Override
    public Void visitNewClass(NewClassTree node, Void nothing) {
        Due.holds(node + " stands at a field alone", methods.isEmpty());
        return super.visitNewClass(node, nothing);
    }

    @Override
    public Void visitNewArray(NewArrayTree node, Void nothing) {
        Due.holds(node + " stands at a field alone", methods.isEmpty());
        return super.visitNewArray(node, nothing);
    }

    // ---- rules 3, 5, 11: types and fields

    @Override
    public Void visitClass(ClassTree node, Void nothing) {
        int fields = 0;
        for (Tree member : node.getMembers()) {
            if (member instanceof VariableTree && !isStatic((VariableTree) member)) {
                fields++;
            }
            Due.holds(node.getSimpleName() + " has no block of its own", member.getKind() != Tree.Kind.BLOCK);
        }
        Due.holds(node.getSimpleName() + " has " + fields + " fields", fields <= MOST_FIELDS);
        return super.visitClass(node, nothing);
    }

    @Override
    public Void visitVariable(VariableTree node, Void nothing) {
        TypeMirror type = trees.getElement(getCurrentPath()).asType();
        boolean own = type.toString().startsWith("ApartGames");
        Due.holds(node.getName() + " is of a type that is allowed", own || TYPES.contains(type.toString()));
        if (isStatic(node)) {
            Due.holds(node.getName() + " is final", node.getModifiers().getFlags().contains(Modifier.FINAL));
            Due.holds(node.getName() + " is a number", node.getInitializer() != null && !own);
        }
        return super.visitVariable(node, nothing);
    }

    @Override
    public Void visitTypeCast(TypeCastTree node, Void nothing) {
        Due.holds(node + " is no cast of objects", trees.getTypeMirror(getCurrentPath()).getKind().isPrimitive());
        return super.visitTypeCast(node, nothing);
    }

    private static boolean isStatic(VariableTree node) {
        return node.getModifiers().getFlags().contains(Modifier.STATIC);
    }

    // ---- rule 10: texts are not joined by +; rule 7: a divisor is a number, or it was looked at

    @Override
    public Void visitBinary(BinaryTree node, Void nothing) {
        Due.holds(node + " joins no texts", trees.getTypeMirror(getCurrentPath()).getKind().isPrimitive());
        divides(node, node.getRightOperand());
        return super.visitBinary(node, nothing);
    }

    @Override
    public Void visitCompoundAssignment(CompoundAssignmentTree node, Void nothing) {
        Due.holds(node + " joins no texts", trees.getTypeMirror(getCurrentPath()).getKind().isPrimitive());
        divides(node, node.getExpression());
        return super.visitCompoundAssignment(node, nothing);
    }

    // Each of the divisors with a name is tested by the lines around it.
    private static void divides(Tree node, Tree divisor) {
        if (DIVISIONS.contains(node.getKind()) && !(divisor instanceof LiteralTree)) {
            Due.holds(node + " divides by what is not 0", DIVISORS.contains(divisor.toString()));
        }
    }

    private static String nameOf(Element method) {
        return method.getEnclosingElement().getSimpleName() + "." + method.getSimpleName();
    }
}
