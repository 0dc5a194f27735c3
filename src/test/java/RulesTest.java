import com.sun.source.tree.*;
import com.sun.source.util.JavacTask;
import com.sun.source.util.SourcePositions;
import com.sun.source.util.TreePath;
import com.sun.source.util.TreePathScanner;
import com.sun.source.util.Trees;
import java.io.IOException;
import java.nio.file.Path;
import java.util.HashMap;
import java.util.HashSet;
import java.util.List;
import java.util.Map;
import java.util.Set;
import java.util.TreeMap;
import java.util.TreeSet;
import javax.lang.model.element.Element;
import javax.lang.model.element.ElementKind;
import javax.lang.model.element.ExecutableElement;
import javax.lang.model.element.Modifier;
import javax.lang.model.type.ArrayType;
import javax.lang.model.type.TypeMirror;
import javax.tools.JavaCompiler;
import javax.tools.StandardJavaFileManager;
import javax.tools.ToolProvider;

/** What the compiler sees of LANGUAGE.md: kinds of trees, types, calls of the library, how deep calls go. */
public final class RulesTest extends TreePathScanner<Void, Void> {
    private static final Set<String> LIBRARY = Set.of(
            "String.length", "String.charAt", "String.isEmpty", "String.equals", "String.indexOf", "String.substring",
            "String.toCharArray", "StringBuilder.append", "StringBuilder.charAt", "StringBuilder.setCharAt",
            "StringBuilder.setLength", "StringBuilder.deleteCharAt", "StringBuilder.reverse", "StringBuilder.length",
            "StringBuilder.toString", "Math.max", "Math.min", "Math.abs", "Math.floorDiv", "Math.floorMod",
            "Integer.compare", "Integer.bitCount", "Integer.max", "Integer.min", "Long.compare", "Long.bitCount",
            "System.arraycopy", "Arrays.copyOf", "Arrays.copyOfRange", "Arrays.fill");
    private static final Set<String> PLAIN = Set.of("int", "long", "short", "byte", "char", "boolean", "double", "float");
    private static final Set<String> CONSTANTS = Set.of("int", "long", "boolean", "char", "java.lang.String");
    private static final Set<String> CONSTANT_ROWS = Set.of("int[]", "long[]", "char[]", "byte[]");
    private static final Set<Tree.Kind> FORBIDDEN = Set.of(Tree.Kind.THROW, Tree.Kind.TRY, Tree.Kind.CATCH,
            Tree.Kind.SYNCHRONIZED, Tree.Kind.ASSERT, Tree.Kind.LAMBDA_EXPRESSION, Tree.Kind.MEMBER_REFERENCE);

    private static final Set<Tree.Kind> BOUNDS = Set.of(Tree.Kind.LESS_THAN, Tree.Kind.LESS_THAN_EQUAL,
            Tree.Kind.GREATER_THAN, Tree.Kind.GREATER_THAN_EQUAL);

    private final Trees trees;
    private final CompilationUnitTree unit;
    private final Map<ExecutableElement, Set<ExecutableElement>> calls = new HashMap<>();
    private final Map<String, Integer> fields = new TreeMap<>();
    private final Set<String> seen = new TreeSet<>();
    private int classes = 0;
    private int forbidden = 0;

    private RulesTest(Trees trees, CompilationUnitTree unit) {
        this.trees = trees;
        this.unit = unit;
    }

    public static void main(String[] args) throws IOException {
        JavaCompiler compiler = ToolProvider.getSystemJavaCompiler();
        try (StandardJavaFileManager files = compiler.getStandardFileManager(null, null, null)) {
            JavacTask task = (JavacTask) compiler.getTask(null, files, null, List.of("-proc:none"), null,
                    files.getJavaFileObjects(Path.of("src/main/java/SecondLife.java")));
            CompilationUnitTree unit = task.parse().iterator().next();
            task.analyze();
            RulesTest rules = new RulesTest(Trees.instance(task), unit);
            rules.scan(unit, null);
            rules.whole();
        }
        Due.end();
    }

    private void whole() {
        rule(6, "none of " + FORBIDDEN, forbidden == 0);
        rule(11, "classes: " + classes, classes > 0 && classes <= 12);
        fields.forEach((name, many) -> rule(11, "fields of " + name + ": " + many, many <= 20));
        rule(4, "calls of the library were seen: " + seen, seen.contains("Math.max"));
        int deepest = 0;
        for (ExecutableElement method : calls.keySet()) {
            deepest = Math.max(deepest, depth(method, new HashMap<>()));
        }
        rule(11, "calls go at most eight deep: " + deepest, deepest > 2 && deepest <= 8);
    }

    private static void rule(int number, String what, boolean kept) {
        Due.is("rule " + number + ": " + what, kept ? 1 : 0, 1);
    }

    @Override
    public Void scan(Tree tree, Void nothing) {
        if (tree != null && FORBIDDEN.contains(tree.getKind())) {
            forbidden++;
            rule(6, tree.toString(), false);
        }
        return super.scan(tree, nothing);
    }

    // ---- classes and their parts

    @Override
    public Void visitClass(ClassTree tree, Void nothing) {
        classes++;
        Tree within = getCurrentPath().getParentPath().getLeaf();
        boolean outer = within instanceof CompilationUnitTree;
        boolean nested = within instanceof ClassTree
                && trees.getElement(getCurrentPath()).getModifiers().contains(Modifier.STATIC);
        rule(2, "class " + tree.getSimpleName() + " stands in the file or, static, in a class", outer || nested);
        fields.put(tree.getSimpleName().toString(), 0);
        for (Tree part : tree.getMembers()) {
            rule(5, "no block in " + tree.getSimpleName(), !(part instanceof BlockTree));
            if (part instanceof VariableTree) {
                field(tree, (VariableTree) part);
            }
        }
        return super.visitClass(tree, nothing);
    }

    private void field(ClassTree owner, VariableTree field) {
        Element element = trees.getElement(new TreePath(getCurrentPath(), field));
        String type = element.asType().toString();
        if (!element.getModifiers().contains(Modifier.STATIC)) {
            fields.merge(owner.getSimpleName().toString(), 1, Integer::sum);
            return;
        }
        boolean row = CONSTANT_ROWS.contains(type) && field.getInitializer() instanceof NewArrayTree
                && ((NewArrayTree) field.getInitializer()).getInitializers() != null;
        rule(5, "static " + field.getName() + " is a constant", element.getModifiers().contains(Modifier.FINAL)
                && (CONSTANTS.contains(type) || row));
    }

    @Override
    public Void visitMethod(MethodTree tree, Void nothing) {
        ExecutableElement method = (ExecutableElement) trees.getElement(getCurrentPath());
        calls.putIfAbsent(method, new HashSet<>());
        rule(11, "parameters of " + tree.getName(), tree.getParameters().size() <= 7);
        SourcePositions at = trees.getSourcePositions();
        LineMap lines = unit.getLineMap();
        if (at.getStartPosition(unit, tree) >= 0 && at.getEndPosition(unit, tree) >= 0) {
            long many = lines.getLineNumber(at.getEndPosition(unit, tree)) - lines.getLineNumber(at.getStartPosition(unit, tree)) + 1;
            rule(11, "lines of " + tree.getName() + ": " + many, many <= 62);
        }
        typeFits("what " + tree.getName() + " answers", method.getReturnType());
        return super.visitMethod(tree, nothing);
    }

    @Override
    public Void visitVariable(VariableTree tree, Void nothing) {
        typeFits(tree.getName().toString(), trees.getElement(getCurrentPath()).asType());
        return super.visitVariable(tree, nothing);
    }

    private void typeFits(String name, TypeMirror type) {
        String text = type.toString();
        boolean own = text.startsWith("SecondLife");
        boolean fits = text.equals("void") || PLAIN.contains(text) || own || text.equals("java.lang.String")
                || text.equals("java.lang.StringBuilder");
        if (type instanceof ArrayType) {
            String of = ((ArrayType) type).getComponentType().toString();
            fits = PLAIN.contains(of) || of.matches("SecondLife\\.\\w+") || of.matches("(int|long|short|byte|char)\\[\\]");
        }
        rule(3, name + " is " + text, fits);
    }

    // ---- calls

    @Override
    public Void visitMethodInvocation(MethodInvocationTree tree, Void nothing) {
        called((ExecutableElement) trees.getElement(getCurrentPath()));
        return super.visitMethodInvocation(tree, nothing);
    }

    @Override
    public Void visitNewClass(NewClassTree tree, Void nothing) {
        rule(2, "no class without a name: " + tree, tree.getClassBody() == null);
        called((ExecutableElement) trees.getElement(getCurrentPath()));
        return super.visitNewClass(tree, nothing);
    }

    private void called(ExecutableElement callee) {
        String owner = callee.getEnclosingElement().toString();
        String name = callee.getEnclosingElement().getSimpleName() + "." + callee.getSimpleName();
        boolean own = owner.equals("SecondLife") || owner.startsWith("SecondLife.");
        if (!own) {
            seen.add(name);
            boolean empty = name.equals("Object.<init>") || name.equals("StringBuilder.<init>") || name.equals("String.<init>");
            rule(4, name + " stands in the list", LIBRARY.contains(name) || empty);
            return;
        }
        Element caller = enclosing();
        if (caller instanceof ExecutableElement) {
            calls.computeIfAbsent((ExecutableElement) caller, k -> new HashSet<>()).add(callee);
        }
    }

    private Element enclosing() {
        for (TreePath path = getCurrentPath(); path != null; path = path.getParentPath()) {
            if (path.getLeaf() instanceof MethodTree) {
                return trees.getElement(path);
            }
        }
        return null;
    }

    private Set<ExecutableElement> reached(ExecutableElement from) {
        Set<ExecutableElement> found = new HashSet<>();
        List<ExecutableElement> open = new java.util.ArrayList<>(calls.getOrDefault(from, Set.of()));
        while (!open.isEmpty()) {
            ExecutableElement next = open.remove(open.size() - 1);
            if (found.add(next)) {
                open.addAll(calls.getOrDefault(next, Set.of()));
            }
        }
        return found;
    }

    /** How many stand open at most, all that call one another counted once. */
    private int depth(ExecutableElement method, Map<ExecutableElement, Integer> known) {
        Integer was = known.get(method);
        if (was != null) {
            return was;
        }
        Set<ExecutableElement> circle = new HashSet<>(Set.of(method));
        for (ExecutableElement other : reached(method)) {
            if (reached(other).contains(method)) {
                circle.add(other);
            }
        }
        int most = 0;
        for (ExecutableElement one : circle) {
            for (ExecutableElement next : calls.getOrDefault(one, Set.of())) {
                most = circle.contains(next) ? most : Math.max(most, depth(next, known));
            }
        }
        known.put(method, most + 1);
        return most + 1;
    }

    // ---- what is compared, changed and gone around

    @Override
    public Void visitBinary(BinaryTree tree, Void nothing) {
        boolean same = tree.getKind() == Tree.Kind.EQUAL_TO || tree.getKind() == Tree.Kind.NOT_EQUAL_TO;
        String left = typeOf(tree.getLeftOperand());
        String right = typeOf(tree.getRightOperand());
        rule(6, "texts are not compared by " + tree, !same || !left.equals("java.lang.String") && !left.equals("java.lang.Integer"));
        rule(10, "texts are not joined by " + tree, tree.getKind() != Tree.Kind.PLUS
                || !left.equals("java.lang.String") && !right.equals("java.lang.String"));
        return super.visitBinary(tree, nothing);
    }

    private String typeOf(Tree tree) {
        TypeMirror type = trees.getTypeMirror(new TreePath(getCurrentPath(), tree));
        return type == null ? "" : type.toString();
    }

    @Override
    public Void visitAssignment(AssignmentTree tree, Void nothing) {
        keepsConstants(tree.getVariable());
        return super.visitAssignment(tree, nothing);
    }

    @Override
    public Void visitCompoundAssignment(CompoundAssignmentTree tree, Void nothing) {
        keepsConstants(tree.getVariable());
        return super.visitCompoundAssignment(tree, nothing);
    }

    @Override
    public Void visitUnary(UnaryTree tree, Void nothing) {
        if (tree.getKind().toString().endsWith("CREMENT")) {
            keepsConstants(tree.getExpression());
        }
        return super.visitUnary(tree, nothing);
    }

    private void keepsConstants(ExpressionTree changed) {
        if (changed instanceof ArrayAccessTree) {
            Element row = trees.getElement(new TreePath(new TreePath(getCurrentPath(), changed),
                    ((ArrayAccessTree) changed).getExpression()));
            boolean constant = row != null && row.getKind() == ElementKind.FIELD && row.getModifiers().contains(Modifier.STATIC);
            rule(5, changed + " is no constant", !constant);
        }
    }

    @Override
    public Void visitForLoop(ForLoopTree tree, Void nothing) {
        rule(9, "a loop has an end: " + tree.getCondition(), bounded(tree.getCondition()));
        return super.visitForLoop(tree, nothing);
    }

    @Override
    public Void visitWhileLoop(WhileLoopTree tree, Void nothing) {
        rule(9, "a loop has an end: " + tree.getCondition(), bounded(tree.getCondition()));
        return super.visitWhileLoop(tree, nothing);
    }

    @Override
    public Void visitDoWhileLoop(DoWhileLoopTree tree, Void nothing) {
        rule(9, "a loop has an end: " + tree.getCondition(), bounded(tree.getCondition()));
        return super.visitDoWhileLoop(tree, nothing);
    }

    /** One of what must hold together is a number held against a bound. */
    private static boolean bounded(ExpressionTree condition) {
        if (condition instanceof ParenthesizedTree) {
            return bounded(((ParenthesizedTree) condition).getExpression());
        }
        if (condition == null || condition.getKind() != Tree.Kind.CONDITIONAL_AND) {
            return condition != null && BOUNDS.contains(condition.getKind());
        }
        BinaryTree both = (BinaryTree) condition;
        return bounded(both.getLeftOperand()) || bounded(both.getRightOperand());
    }
}
