import com.sun.source.tree.AnnotationTree;
import com.sun.source.tree.AssertTree;
import com.sun.source.tree.BinaryTree;
import com.sun.source.tree.ClassTree;
import com.sun.source.tree.CompilationUnitTree;
import com.sun.source.tree.DoWhileLoopTree;
import com.sun.source.tree.EnhancedForLoopTree;
import com.sun.source.tree.ExpressionTree;
import com.sun.source.tree.ForLoopTree;
import com.sun.source.tree.ImportTree;
import com.sun.source.tree.InstanceOfTree;
import com.sun.source.tree.LambdaExpressionTree;
import com.sun.source.tree.MemberReferenceTree;
import com.sun.source.tree.MethodInvocationTree;
import com.sun.source.tree.MethodTree;
import com.sun.source.tree.NewArrayTree;
import com.sun.source.tree.NewClassTree;
import com.sun.source.tree.ParenthesizedTree;
import com.sun.source.tree.SynchronizedTree;
import com.sun.source.tree.ThrowTree;
import com.sun.source.tree.Tree;
import com.sun.source.tree.TryTree;
import com.sun.source.tree.TypeCastTree;
import com.sun.source.tree.VariableTree;
import com.sun.source.tree.WhileLoopTree;
import com.sun.source.util.JavacTask;
import com.sun.source.util.TreePath;
import com.sun.source.util.TreePathScanner;
import com.sun.source.util.Trees;
import java.nio.file.Path;
import java.util.HashMap;
import java.util.HashSet;
import java.util.List;
import java.util.Map;
import java.util.Set;
import java.util.TreeSet;
import javax.lang.model.element.Element;
import javax.lang.model.element.ElementKind;
import javax.lang.model.element.Modifier;
import javax.tools.JavaCompiler;
import javax.tools.JavaFileObject;
import javax.tools.StandardJavaFileManager;
import javax.tools.ToolProvider;

/** The rules of LANGUAGE.md that can be seen in the source of the class, asked of the compiler's own tree of it. */
public final class LanguageTest extends TreePathScanner<Void, Void> {
    private static final Path SOURCE = Path.of("src/main/java/DotSpreader.java");
    private static final Set<String> LIBRARY = Set.of("java.lang.Math.max", "java.lang.Math.min", "java.util.Arrays.fill",
            "java.lang.System.arraycopy", "java.lang.String.length", "java.lang.String.charAt", "java.lang.Object.<init>");
    private static final Set<String> TYPES = Set.of("int", "long", "byte", "char", "boolean", "void", "int[]", "byte[]",
            "boolean[]", "String");
    private static final Set<String> THROWN = Set.of("IllegalArgumentException", "IndexOutOfBoundsException",
            "NoSuchElementException");

    private static final Set<Tree.Kind> BOUNDS = Set.of(Tree.Kind.LESS_THAN, Tree.Kind.LESS_THAN_EQUAL,
            Tree.Kind.GREATER_THAN, Tree.Kind.GREATER_THAN_EQUAL);

    private final Trees trees;
    private final CompilationUnitTree unit;
    private final Set<String> ownClasses = new HashSet<>();
    private final Map<String, Set<String>> calls = new HashMap<>();
    private final Map<String, Integer> depths = new HashMap<>();
    private final Set<String> open = new HashSet<>();
    private String method = "";
    private boolean inConstructor = false;

    private LanguageTest(Trees trees, CompilationUnitTree unit) {
        this.trees = trees;
        this.unit = unit;
    }

    public static void main(String[] args) throws Exception {
        JavaCompiler compiler = ToolProvider.getSystemJavaCompiler();
        try (StandardJavaFileManager files = compiler.getStandardFileManager(null, null, null)) {
            Iterable<? extends JavaFileObject> sources = files.getJavaFileObjects(SOURCE);
            JavacTask task = (JavacTask) compiler.getTask(null, files, null, List.of("-proc:none"), null, sources);
            CompilationUnitTree unit = task.parse().iterator().next();
            task.analyze();
            LanguageTest test = new LanguageTest(Trees.instance(task), unit);
            test.nameClasses();
            test.scan(unit, null);
            test.callsGoEightDeep();
        }
        Check.done("LanguageTest");
    }

    private void rule(int number, String what, boolean kept) {
        Check.is("Rule " + number + ": " + what + (method.isEmpty() ? "" : " in " + method), kept, true);
    }

    private void nameClasses() {
        Check.is("one class in the file", unit.getTypeDecls().size(), 1);
        ClassTree whole = (ClassTree) unit.getTypeDecls().get(0);
        ownClasses.add(whole.getSimpleName().toString());
        for (Tree member : whole.getMembers()) {
            if (member instanceof ClassTree inside) {
                ownClasses.add(inside.getSimpleName().toString());
            }
        }
        rule(11, "some twelve classes", ownClasses.size() <= 12);
        rule(1, "no package", unit.getPackage() == null);
    }

    private Element element(Tree tree) {
        return trees.getElement(new TreePath(getCurrentPath(), tree));
    }

    private boolean knownType(String type) {
        return TYPES.contains(type) || ownClasses.contains(type);
    }

    // ---- what stands there ----

    @Override
    public Void visitImport(ImportTree tree, Void nothing) {
        String name = tree.getQualifiedIdentifier().toString();
        rule(4, "import " + name, !tree.isStatic() && Set.of("java.util.Arrays", "java.util.NoSuchElementException").contains(name));
        return super.visitImport(tree, nothing);
    }

    @Override
    public Void visitClass(ClassTree tree, Void nothing) {
        boolean top = getCurrentPath().getParentPath().getLeaf() == unit;
        boolean inside = getCurrentPath().getParentPath().getLeaf() instanceof ClassTree;
        Set<Modifier> modifiers = tree.getModifiers().getFlags();
        rule(2, "class " + tree.getSimpleName() + " is no local one", top || inside);
        rule(1, "class " + tree.getSimpleName() + " is private and static", top || modifiers.contains(Modifier.STATIC)
                && !modifiers.contains(Modifier.PUBLIC) && !modifiers.contains(Modifier.PROTECTED));
        int fields = 0;
        for (Tree member : tree.getMembers()) {
            boolean constant = member instanceof VariableTree field && field.getModifiers().getFlags().contains(Modifier.STATIC);
            fields += member instanceof VariableTree && !constant ? 1 : 0;
            rule(5, "no static block", member.getKind() != Tree.Kind.BLOCK);
        }
        rule(11, "some twenty fields of " + tree.getSimpleName(), fields <= 20);
        return super.visitClass(tree, nothing);
    }

    @Override
    public Void visitVariable(VariableTree tree, Void nothing) {
        rule(3, "type " + tree.getType(), knownType(tree.getType().toString()));
        Set<Modifier> modifiers = tree.getModifiers().getFlags();
        if (modifiers.contains(Modifier.STATIC)) {
            rule(5, "static " + tree.getName(), modifiers.contains(Modifier.FINAL)
                    && Set.of("int", "long", "boolean", "char", "String").contains(tree.getType().toString()));
        }
        return super.visitVariable(tree, nothing);
    }

    @Override
    public Void visitMethod(MethodTree tree, Void nothing) {
        Element self = trees.getElement(getCurrentPath());
        method = fullName(self);
        inConstructor = self.getKind() == ElementKind.CONSTRUCTOR;
        calls.put(method, new TreeSet<>());
        rule(11, "seven parameters", tree.getParameters().size() <= 7);
        long first = unit.getLineMap().getLineNumber(trees.getSourcePositions().getStartPosition(unit, tree));
        long last = unit.getLineMap().getLineNumber(trees.getSourcePositions().getEndPosition(unit, tree));
        rule(11, "some sixty lines", last - first < 60);
        super.visitMethod(tree, nothing);
        method = "";
        inConstructor = false;
        return null;
    }

    private static String fullName(Element of) {
        return of.getEnclosingElement() + "." + of.getSimpleName();
    }

    @Override
    public Void visitMethodInvocation(MethodInvocationTree tree, Void nothing) {
        Element called = element(tree.getMethodSelect());
        String name = fullName(called);
        boolean own = name.startsWith("DotSpreader");
        rule(4, "call of " + name, own || LIBRARY.contains(name));
        if (own) {
            calls.get(method).add(name);
            rule(12, "a constructor calls " + name, !inConstructor);
        }
        return super.visitMethodInvocation(tree, nothing);
    }

    @Override
    public Void visitNewClass(NewClassTree tree, Void nothing) {
        boolean thrown = getCurrentPath().getParentPath().getLeaf() instanceof ThrowTree;
        boolean field = getCurrentPath().getParentPath().getLeaf() instanceof VariableTree && method.isEmpty();
        rule(12, "new " + tree.getIdentifier(), thrown || field || inConstructor);
        rule(2, "no class without a name", tree.getClassBody() == null);
        rule(4, "new " + tree.getIdentifier(), thrown || ownClasses.contains(tree.getIdentifier().toString()));
        return super.visitNewClass(tree, nothing);
    }

    @Override
    public Void visitNewArray(NewArrayTree tree, Void nothing) {
        rule(12, "a new array", method.isEmpty() || inConstructor);
        return super.visitNewArray(tree, nothing);
    }

    @Override
    public Void visitThrow(ThrowTree tree, Void nothing) {
        boolean made = tree.getExpression() instanceof NewClassTree;
        rule(6, "throw new", made);
        rule(6, "no throw in a constructor", !inConstructor);
        if (tree.getExpression() instanceof NewClassTree made2) {
            rule(6, "thrown " + made2.getIdentifier(), THROWN.contains(made2.getIdentifier().toString()));
            for (Tree text : made2.getArguments()) {
                rule(6, "a written text", text.getKind() == Tree.Kind.STRING_LITERAL);
            }
        }
        return super.visitThrow(tree, nothing);
    }

    @Override
    public Void visitTypeCast(TypeCastTree tree, Void nothing) {
        rule(3, "cast to " + tree.getType(), Set.of("int", "long", "byte", "char").contains(tree.getType().toString()));
        return super.visitTypeCast(tree, nothing);
    }

    // ---- loops ----

    /** A counter is held against a bound: a comparison that must be so for the loop to go on. */
    private static boolean hasBound(ExpressionTree condition) {
        if (condition instanceof ParenthesizedTree inside) {
            return hasBound(inside.getExpression());
        }
        if (condition instanceof BinaryTree both) {
            boolean and = both.getKind() == Tree.Kind.CONDITIONAL_AND && (hasBound(both.getLeftOperand())
                    || hasBound(both.getRightOperand()));
            return and || BOUNDS.contains(both.getKind());
        }
        return false;
    }

    @Override
    public Void visitForLoop(ForLoopTree tree, Void nothing) {
        rule(9, "a bound of for (" + tree.getCondition() + ")", hasBound(tree.getCondition()) && tree.getUpdate().size() == 1);
        return super.visitForLoop(tree, nothing);
    }

    @Override
    public Void visitWhileLoop(WhileLoopTree tree, Void nothing) {
        rule(9, "a bound of while " + tree.getCondition(), hasBound(tree.getCondition()));
        return super.visitWhileLoop(tree, nothing);
    }

    @Override
    public Void visitDoWhileLoop(DoWhileLoopTree tree, Void nothing) {
        rule(9, "a bound of do while " + tree.getCondition(), hasBound(tree.getCondition()));
        return super.visitDoWhileLoop(tree, nothing);
    }

    @Override
    public Void visitEnhancedForLoop(EnhancedForLoopTree tree, Void nothing) {
        rule(9, "no for over something, as none is needed", false);
        return super.visitEnhancedForLoop(tree, nothing);
    }

    // ---- what must not stand there ----

    @Override
    public Void visitBinary(BinaryTree tree, Void nothing) {
        boolean text = tree.getLeftOperand().getKind() == Tree.Kind.STRING_LITERAL
                || tree.getRightOperand().getKind() == Tree.Kind.STRING_LITERAL;
        rule(10, "no text joined or compared by " + tree.getKind(), !text);
        return super.visitBinary(tree, nothing);
    }

    @Override
    public Void visitTry(TryTree tree, Void nothing) {
        rule(6, "no exception is caught", false);
        return super.visitTry(tree, nothing);
    }

    @Override
    public Void visitLambdaExpression(LambdaExpressionTree tree, Void nothing) {
        rule(2, "no lambda", false);
        return super.visitLambdaExpression(tree, nothing);
    }

    @Override
    public Void visitMemberReference(MemberReferenceTree tree, Void nothing) {
        rule(2, "no method reference", false);
        return super.visitMemberReference(tree, nothing);
    }

    @Override
    public Void visitSynchronized(SynchronizedTree tree, Void nothing) {
        rule(6, "no synchronized", false);
        return super.visitSynchronized(tree, nothing);
    }

    @Override
    public Void visitAssert(AssertTree tree, Void nothing) {
        rule(6, "no assert", false);
        return super.visitAssert(tree, nothing);
    }

    @Override
    public Void visitInstanceOf(InstanceOfTree tree, Void nothing) {
        rule(6, "no instanceof, as nothing here is of several classes", false);
        return super.visitInstanceOf(tree, nothing);
    }

    @Override
    public Void visitAnnotation(AnnotationTree tree, Void nothing) {
        rule(4, "no annotation", false);
        return super.visitAnnotation(tree, nothing);
    }

    // ---- how deep calls go ----

    private void callsGoEightDeep() {
        for (String name : calls.keySet()) {
            Check.is("Rule 11: calls from " + name + " go eight deep at most", depthOf(name) <= 8, true);
        }
        Check.is("Rule 11: the deepest calls are seen", depthOf("DotSpreader.read") > 4, true);
    }

    private int depthOf(String name) {
        if (depths.containsKey(name)) {
            return depths.get(name);
        }
        Check.is("Rule 8: " + name + " does not call itself", open.add(name), true);
        int deepest = 0;
        for (String called : calls.getOrDefault(name, Set.of())) {
            deepest = Math.max(deepest, open.contains(called) ? 1000 : depthOf(called));
        }
        open.remove(name);
        depths.put(name, deepest + 1);
        return deepest + 1;
    }
}
