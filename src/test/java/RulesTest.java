import com.sun.source.tree.ArrayAccessTree;
import com.sun.source.tree.AssertTree;
import com.sun.source.tree.BinaryTree;
import com.sun.source.tree.BlockTree;
import com.sun.source.tree.ClassTree;
import com.sun.source.tree.CompilationUnitTree;
import com.sun.source.tree.CompoundAssignmentTree;
import com.sun.source.tree.DoWhileLoopTree;
import com.sun.source.tree.ExpressionTree;
import com.sun.source.tree.ForLoopTree;
import com.sun.source.tree.IdentifierTree;
import com.sun.source.tree.LambdaExpressionTree;
import com.sun.source.tree.MemberReferenceTree;
import com.sun.source.tree.MethodInvocationTree;
import com.sun.source.tree.MethodTree;
import com.sun.source.tree.NewArrayTree;
import com.sun.source.tree.NewClassTree;
import com.sun.source.tree.SynchronizedTree;
import com.sun.source.tree.ThrowTree;
import com.sun.source.tree.Tree;
import com.sun.source.tree.TryTree;
import com.sun.source.tree.TypeCastTree;
import com.sun.source.tree.VariableTree;
import com.sun.source.tree.WhileLoopTree;
import com.sun.source.util.JavacTask;
import com.sun.source.util.TreePath;
import com.sun.source.util.TreePathScanner;
import com.sun.source.util.TreeScanner;
import com.sun.source.util.Trees;
import java.io.File;
import java.io.IOException;
import java.util.HashMap;
import java.util.HashSet;
import java.util.List;
import java.util.Map;
import java.util.Set;
import java.util.TreeSet;
import javax.lang.model.element.Element;
import javax.lang.model.element.ElementKind;
import javax.lang.model.element.ExecutableElement;
import javax.lang.model.element.Modifier;
import javax.lang.model.element.TypeElement;
import javax.lang.model.element.VariableElement;
import javax.lang.model.type.TypeMirror;
import javax.tools.JavaCompiler;
import javax.tools.StandardJavaFileManager;
import javax.tools.ToolProvider;

/** The rules of LANGUAGE.md that can be seen in the source of the class. */
public final class RulesTest {
    private static final String SOURCE = "src/main/java/TradeWords.java";
    private static final Set<String> LIBRARY = Set.of("java.lang.Math.max", "java.lang.Math.min", "java.lang.Math.abs",
        "java.lang.Integer.bitCount", "java.lang.System.arraycopy", "java.util.Arrays.fill", "java.lang.Object.<init>");
    private static final Set<String> TYPES = Set.of("int", "long", "byte", "boolean", "int[]", "long[]", "byte[]");
    private static final Set<Tree.Kind> COMPARISONS = Set.of(Tree.Kind.LESS_THAN, Tree.Kind.LESS_THAN_EQUAL,
        Tree.Kind.GREATER_THAN, Tree.Kind.GREATER_THAN_EQUAL, Tree.Kind.EQUAL_TO, Tree.Kind.NOT_EQUAL_TO);
    private static final Set<Tree.Kind> DIVISIONS = Set.of(Tree.Kind.DIVIDE, Tree.Kind.REMAINDER,
        Tree.Kind.DIVIDE_ASSIGNMENT, Tree.Kind.REMAINDER_ASSIGNMENT);
    private static final int MOST_LINES = 60;
    private static final int MOST_PARAMETERS = 7;
    private static final int MOST_CLASSES = 12;
    private static final int MOST_FIELDS = 20;
    private static final int MOST_DEPTH = 8;

    private final Checks checks = new Checks();
    private final Set<String> seen = new TreeSet<>();
    private final Map<Element, Set<Element>> calls = new HashMap<>();
    private Trees trees;
    private CompilationUnitTree unit;

    public static void main(String[] args) throws IOException {
        new RulesTest().go(args.length > 0 ? args[0] : SOURCE);
    }

    private void go(String source) throws IOException {
        JavaCompiler compiler = ToolProvider.getSystemJavaCompiler();
        try (StandardJavaFileManager files = compiler.getStandardFileManager(null, null, null)) {
            JavacTask task = (JavacTask) compiler.getTask(null, files, null, null, null,
                files.getJavaFileObjects(new File(source)));
            unit = task.parse().iterator().next();
            task.analyze();
            trees = Trees.instance(task);
            new Looks().scan(unit, null);
        }
        for (Element method : calls.keySet()) {
            checks.due("calls that stand open from " + method, depth(method, 1) <= MOST_DEPTH ? 1 : 0, 1);
        }
        // a scan that finds nothing would hold every rule
        for (String kind : List.of("class", "method", "index", "divisor", "loop", "call", "new")) {
            checks.due("seen: " + kind, seen.contains(kind) ? 1 : 0, 1);
        }
        checks.end();
    }

    private int depth(Element method, int level) {
        int most = level;
        // a method that calls itself ends here, too, above what is allowed
        if (level <= MOST_DEPTH) {
            for (Element called : calls.getOrDefault(method, Set.of())) {
                most = Math.max(most, depth(called, level + 1));
            }
        }
        return most;
    }

    private void holds(boolean rule, String what, Tree where) {
        long line = unit.getLineMap().getLineNumber(trees.getSourcePositions().getStartPosition(unit, where));
        checks.due("line " + line + ": " + what, rule ? 1 : 0, 1);
    }

    /** The names of variables and methods in an expression that may be another number each time. */
    private Set<Element> changing(Tree expression, TreePath path) {
        Set<Element> all = new HashSet<>();
        new TreePathScanner<Void, Void>() {
            @Override public Void visitIdentifier(IdentifierTree tree, Void none) {
                Element element = trees.getElement(getCurrentPath());
                boolean constant = element instanceof VariableElement
                    && ((VariableElement) element).getConstantValue() != null;
                if (!constant && element != null) all.add(element);
                return null;
            }
        }.scan(new TreePath(path, expression), null);
        return all;
    }

    /** All numbers that are compared anywhere in a method, but for those that are first used there. */
    private Set<Element> compared(TreePath method) {
        Set<Element> all = new HashSet<>();
        new TreePathScanner<Void, Void>() {
            @Override public Void visitBinary(BinaryTree tree, Void none) {
                if (COMPARISONS.contains(tree.getKind())) {
                    looked(tree.getLeftOperand());
                    looked(tree.getRightOperand());
                }
                return super.visitBinary(tree, none);
            }

            private void looked(ExpressionTree side) {
                if (side instanceof IdentifierTree) all.addAll(changing(side, getCurrentPath()));
            }
        }.scan(method, null);
        return all;
    }

    private static String owner(Element element) {
        Element owner = element.getEnclosingElement();
        return owner instanceof TypeElement ? ((TypeElement) owner).getQualifiedName().toString() : "";
    }

    private static boolean isOwn(String className) {
        return className.equals("TradeWords") || className.startsWith("TradeWords.");
    }

    private final class Looks extends TreePathScanner<Void, Void> {
        private int classes;
        private TreePath method;
        private Set<Element> compared = Set.of();

        @Override public Void visitCompilationUnit(CompilationUnitTree tree, Void none) {
            tree.getImports().forEach(one -> holds(
                one.getQualifiedIdentifier().toString().equals("java.util.Arrays"), "rule 4: " + one, one));
            holds(tree.getTypeDecls().size() == 1, "rule 1: one class in the file", tree);
            holds(tree.getPackageName() == null, "no package line", tree);
            super.visitCompilationUnit(tree, none);
            holds(classes <= MOST_CLASSES, "rule 11: " + classes + " classes", tree);
            return null;
        }

        @Override public Void visitClass(ClassTree tree, Void none) {
            seen.add("class");
            classes++;
            boolean inside = getCurrentPath().getParentPath().getLeaf() instanceof ClassTree;
            Set<Modifier> flags = tree.getModifiers().getFlags();
            if (inside) {
                holds(flags.contains(Modifier.STATIC) && !flags.contains(Modifier.PUBLIC), "rule 1: a class inside", tree);
            } else {
                holds(getCurrentPath().getParentPath().getLeaf() == unit, "rule 2: a class in a method", tree);
            }
            fields(tree);
            privateNames(tree);
            return super.visitClass(tree, none);
        }

        private void fields(ClassTree tree) {
            int many = 0;
            for (Tree member : tree.getMembers()) {
                if (member instanceof VariableTree) {
                    VariableElement field = (VariableElement) trees.getElement(new TreePath(getCurrentPath(), member));
                    if (field.getModifiers().contains(Modifier.STATIC)) {
                        holds(field.getConstantValue() != null, "rule 5: a static field that is no constant", member);
                    } else {
                        many++;
                    }
                }
                holds(!(member instanceof BlockTree), "rule 5: a block of its own", member);
            }
            holds(many <= MOST_FIELDS, "rule 11: " + many + " fields", tree);
        }

        private void privateNames(ClassTree tree) {
            Set<String> open = new HashSet<>();
            for (boolean hidden : new boolean[] {false, true}) {
                for (Tree member : tree.getMembers()) {
                    if (!(member instanceof MethodTree)) continue;
                    MethodTree one = (MethodTree) member;
                    Set<Modifier> flags = one.getModifiers().getFlags();
                    if (!hidden && flags.contains(Modifier.PUBLIC)) open.add(one.getName().toString());
                    if (hidden && flags.contains(Modifier.PRIVATE)) {
                        holds(!open.contains(one.getName().toString()), "rule 1: a public name", one);
                    }
                }
            }
        }

        @Override public Void visitMethod(MethodTree tree, Void none) {
            seen.add("method");
            method = getCurrentPath();
            compared = compared(method);
            calls.computeIfAbsent(trees.getElement(method), key -> new HashSet<>());
            holds(tree.getParameters().size() <= MOST_PARAMETERS, "rule 11: parameters", tree);
            long first = trees.getSourcePositions().getStartPosition(unit, tree);
            long last = trees.getSourcePositions().getEndPosition(unit, tree);
            if (last > first) {
                long lines = unit.getLineMap().getLineNumber(last) - unit.getLineMap().getLineNumber(first) + 1;
                holds(lines <= MOST_LINES, "rule 11: " + lines + " lines", tree);
            }
            super.visitMethod(tree, none);
            method = null;
            compared = Set.of();
            return null;
        }

        @Override public Void visitVariable(VariableTree tree, Void none) {
            TypeMirror type = trees.getTypeMirror(new TreePath(getCurrentPath(), tree.getType()));
            holds(TYPES.contains(type.toString()) || isOwn(type.toString()), "rule 3: " + type, tree);
            return super.visitVariable(tree, none);
        }

        @Override public Void visitMethodInvocation(MethodInvocationTree tree, Void none) {
            seen.add("call");
            ExecutableElement called = (ExecutableElement) trees.getElement(getCurrentPath());
            String name = owner(called) + "." + called.getSimpleName();
            boolean own = isOwn(owner(called));
            holds(own || LIBRARY.contains(name), "rule 4: " + name, tree);
            if (own && method != null) calls.get(trees.getElement(method)).add(called);
            return super.visitMethodInvocation(tree, none);
        }

        @Override public Void visitArrayAccess(ArrayAccessTree tree, Void none) {
            seen.add("index");
            holds(compared.containsAll(changing(tree.getIndex(), getCurrentPath())),
                "rule 7: an index that is not looked at: " + tree, tree);
            return super.visitArrayAccess(tree, none);
        }

        @Override public Void visitBinary(BinaryTree tree, Void none) {
            if (DIVISIONS.contains(tree.getKind())) divisor(tree, tree.getRightOperand());
            return super.visitBinary(tree, none);
        }

        @Override public Void visitCompoundAssignment(CompoundAssignmentTree tree, Void none) {
            if (DIVISIONS.contains(tree.getKind())) divisor(tree, tree.getExpression());
            return super.visitCompoundAssignment(tree, none);
        }

        private void divisor(Tree tree, ExpressionTree by) {
            seen.add("divisor");
            holds(compared.containsAll(changing(by, getCurrentPath())), "rule 7: a divisor that is not looked at: " + tree, tree);
        }

        /** Rows are made with the object, so that no run of calls fills the room. */
        private void made(Tree tree) {
            seen.add("new");
            boolean inConstructor = method != null
                && trees.getElement(method).getKind() == ElementKind.CONSTRUCTOR;
            holds(method == null || inConstructor, "rule 12: made by a call: " + tree, tree);
        }

        @Override public Void visitNewClass(NewClassTree tree, Void none) {
            made(tree);
            holds(tree.getClassBody() == null, "rule 2: a class without a name", tree);
            return super.visitNewClass(tree, none);
        }

        @Override public Void visitNewArray(NewArrayTree tree, Void none) {
            made(tree);
            tree.getDimensions().forEach(one -> holds(
                changing(one, getCurrentPath()).isEmpty(), "rule 7: a length that is no constant", tree));
            return super.visitNewArray(tree, none);
        }

        @Override public Void visitForLoop(ForLoopTree tree, Void none) {
            seen.add("loop");
            ends(tree, tree.getCondition());
            return super.visitForLoop(tree, none);
        }

        @Override public Void visitWhileLoop(WhileLoopTree tree, Void none) {
            ends(tree, tree.getCondition());
            return super.visitWhileLoop(tree, none);
        }

        @Override public Void visitDoWhileLoop(DoWhileLoopTree tree, Void none) {
            ends(tree, tree.getCondition());
            return super.visitDoWhileLoop(tree, none);
        }

        private void ends(Tree loop, ExpressionTree condition) {
            boolean[] compares = new boolean[1];
            new TreeScanner<Void, Void>() {
                @Override public Void visitBinary(BinaryTree tree, Void none) {
                    compares[0] |= COMPARISONS.contains(tree.getKind());
                    return super.visitBinary(tree, none);
                }
            }.scan(condition, null);
            holds(compares[0], "rule 9: a loop without a bound", loop);
        }

        @Override public Void visitTypeCast(TypeCastTree tree, Void none) {
            TypeMirror type = trees.getTypeMirror(new TreePath(getCurrentPath(), tree.getType()));
            holds(type.getKind().isPrimitive(), "rule 6: a cast to " + type, tree);
            return super.visitTypeCast(tree, none);
        }

        @Override public Void visitThrow(ThrowTree tree, Void none) {
            holds(false, "the document names no exception", tree);
            return super.visitThrow(tree, none);
        }

        @Override public Void visitTry(TryTree tree, Void none) {
            holds(false, "nothing is thrown that could be caught", tree);
            return super.visitTry(tree, none);
        }

        @Override public Void visitAssert(AssertTree tree, Void none) {
            holds(false, "rule 6: assert", tree);
            return super.visitAssert(tree, none);
        }

        @Override public Void visitSynchronized(SynchronizedTree tree, Void none) {
            holds(false, "rule 6: synchronized", tree);
            return super.visitSynchronized(tree, none);
        }

        @Override public Void visitLambdaExpression(LambdaExpressionTree tree, Void none) {
            holds(false, "rule 2: a lambda", tree);
            return super.visitLambdaExpression(tree, none);
        }

        @Override public Void visitMemberReference(MemberReferenceTree tree, Void none) {
            holds(false, "rule 2: a method reference", tree);
            return super.visitMemberReference(tree, none);
        }
    }
}
