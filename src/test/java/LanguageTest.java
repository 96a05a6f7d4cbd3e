import com.sun.source.tree.AssertTree;
import com.sun.source.tree.BinaryTree;
import com.sun.source.tree.CatchTree;
import com.sun.source.tree.ClassTree;
import com.sun.source.tree.CompilationUnitTree;
import com.sun.source.tree.CompoundAssignmentTree;
import com.sun.source.tree.DoWhileLoopTree;
import com.sun.source.tree.ForLoopTree;
import com.sun.source.tree.IdentifierTree;
import com.sun.source.tree.LambdaExpressionTree;
import com.sun.source.tree.LiteralTree;
import com.sun.source.tree.MemberReferenceTree;
import com.sun.source.tree.MethodInvocationTree;
import com.sun.source.tree.MethodTree;
import com.sun.source.tree.NewArrayTree;
import com.sun.source.tree.NewClassTree;
import com.sun.source.tree.SynchronizedTree;
import com.sun.source.tree.ThrowTree;
import com.sun.source.tree.Tree;
import com.sun.source.tree.TryTree;
import com.sun.source.tree.TypeCastTree;
import com.sun.source.tree.VariableTree;
import com.sun.source.tree.WhileLoopTree;
import com.sun.source.util.JavacTask;
import com.sun.source.util.TreePathScanner;
import com.sun.source.util.Trees;
import java.io.IOException;
import java.nio.file.Path;
import java.util.ArrayList;
import java.util.HashMap;
import java.util.HashSet;
import java.util.LinkedHashMap;
import java.util.List;
import java.util.Map;
import java.util.Set;
import javax.lang.model.element.Element;
import javax.lang.model.element.ElementKind;
import javax.lang.model.element.ExecutableElement;
import javax.lang.model.element.Modifier;
import javax.lang.model.element.VariableElement;
import javax.lang.model.type.ArrayType;
import javax.lang.model.type.TypeMirror;
import javax.tools.JavaCompiler;
import javax.tools.StandardJavaFileManager;
import javax.tools.ToolProvider;

/** The program's source, as the compiler reads it, keeps to the rules of LANGUAGE.md; each check names its rule. */
public final class LanguageTest extends TreePathScanner<Void, Void> {
    private static final Checks CHECK = new Checks();
    private static final Path SOURCE = Path.of("src/main/java/SilentTurn.java");
    private static final Set<String> PLAIN = Set.of("int", "long", "short", "byte", "char", "boolean", "void",
            "java.lang.String");
    private static final Set<String> LIBRARY = Set.of("java.lang.String.length", "java.lang.String.charAt",
            "java.lang.String.isEmpty", "java.lang.String.substring", "java.lang.System.arraycopy",
            "java.util.Arrays.fill", "java.util.Arrays.copyOf", "java.util.Arrays.copyOfRange",
            "java.lang.Integer.bitCount", "java.lang.Integer.compare", "java.lang.Math.min", "java.lang.Math.max",
            "java.lang.Math.abs", "java.lang.Math.floorMod", "java.lang.Math.floorDiv");

    private final CompilationUnitTree unit;
    private final Trees trees;
    private final Map<ExecutableElement, Set<ExecutableElement>> calls = new LinkedHashMap<>();
    private final Map<ExecutableElement, Integer> depths = new HashMap<>();
    private ExecutableElement method;
    private int classes;

    private LanguageTest(CompilationUnitTree unit, Trees trees) {
        this.unit = unit;
        this.trees = trees;
    }

    public static void main(String[] args) throws IOException {
        JavaCompiler compiler = ToolProvider.getSystemJavaCompiler();
        try (StandardJavaFileManager files = compiler.getStandardFileManager(null, null, null)) {
            JavacTask task = (JavacTask) compiler.getTask(null, files, null, List.of("-proc:none"), null,
                    files.getJavaFileObjects(SOURCE));
            CompilationUnitTree unit = task.parse().iterator().next();
            task.analyze();
            new LanguageTest(unit, Trees.instance(task)).all();
        }
        CHECK.end();
    }

    private void all() {
        is("no package", unit.getPackageName() == null);
        is("one class in the file", unit.getTypeDecls().size() == 1);
        scan(unit, null);
        is("rule 11: twelve classes", classes > 1 && classes <= 12);
        for (ExecutableElement each : calls.keySet()) {
            boolean recursive = reached(each).contains(each);
            is("rule 8: private, as it calls itself: " + each, !recursive || has(each, Modifier.PRIVATE));
            is("rule 11: eight deep: " + each + " goes " + depth(each), depth(each) <= 8);
        }
    }

    private void is(String what, boolean is) {
        CHECK.due(what, is ? 1 : 0, 1);
    }

    private void refuse(String what, Tree tree) {
        is(what + ": line " + line(tree), false);
    }

    private long line(Tree tree) {
        return unit.getLineMap().getLineNumber(trees.getSourcePositions().getStartPosition(unit, tree));
    }

    private static boolean has(Element element, Modifier modifier) {
        return element.getModifiers().contains(modifier);
    }

    private static boolean isOwn(TypeMirror type) {
        return type.toString().equals("SilentTurn") || type.toString().startsWith("SilentTurn.");
    }

    private static boolean isAllowed(TypeMirror type) {
        if (type instanceof ArrayType row) {
            TypeMirror of = row.getComponentType();
            boolean numbers = of instanceof ArrayType inner && inner.getComponentType().getKind().isPrimitive();
            return numbers || of.getKind().isPrimitive() || isOwn(of);
        }
        return PLAIN.contains(type.toString()) || isOwn(type);
    }

    // ---- how deep calls go

    private Set<ExecutableElement> reached(ExecutableElement from) {
        Set<ExecutableElement> seen = new HashSet<>();
        List<ExecutableElement> open = new ArrayList<>(calls.get(from));
        while (!open.isEmpty()) {
            ExecutableElement next = open.remove(open.size() - 1);
            if (seen.add(next)) {
                open.addAll(calls.getOrDefault(next, Set.of()));
            }
        }
        return seen;
    }

    // A method that calls itself again is one level, however deep it goes.
    private int depth(ExecutableElement from) {
        Integer known = depths.get(from);
        if (known != null) {
            return known;
        }
        depths.put(from, 0);
        int deepest = 0;
        for (ExecutableElement next : calls.getOrDefault(from, Set.of())) {
            deepest = Math.max(deepest, depth(next));
        }
        depths.put(from, deepest + 1);
        return deepest + 1;
    }

    // ---- what stands in the file

    @Override
    public Void visitClass(ClassTree tree, Void none) {
        Element element = trees.getElement(getCurrentPath());
        classes++;
        is("rule 2: final " + element, has(element, Modifier.FINAL));
        Element around = element.getEnclosingElement();
        is("rule 2: static " + element, around.getKind() == ElementKind.PACKAGE
                || around.getKind() == ElementKind.CLASS && has(element, Modifier.STATIC));
        int fields = 0;
        for (Element member : element.getEnclosedElements()) {
            is("rule 5: no static block in " + element, member.getKind() != ElementKind.STATIC_INIT);
            fields += member.getKind() == ElementKind.FIELD && !has(member, Modifier.STATIC) ? 1 : 0;
        }
        is("rule 11: twenty fields in " + element, fields <= 20);
        return super.visitClass(tree, none);
    }

    @Override
    public Void visitVariable(VariableTree tree, Void none) {
        VariableElement element = (VariableElement) trees.getElement(getCurrentPath());
        is("rule 3: the type of " + element + ", line " + line(tree), isAllowed(element.asType()));
        if (has(element, Modifier.STATIC)) {
            is("rule 5: a constant " + element, has(element, Modifier.FINAL) && element.getConstantValue() != null);
        }
        return super.visitVariable(tree, none);
    }

    @Override
    public Void visitMethod(MethodTree tree, Void none) {
        method = (ExecutableElement) trees.getElement(getCurrentPath());
        calls.put(method, new HashSet<>());
        long end = unit.getLineMap().getLineNumber(trees.getSourcePositions().getEndPosition(unit, tree));
        is("rule 11: sixty lines of " + method, end - line(tree) < 60);
        is("rule 11: seven parameters of " + method, tree.getParameters().size() <= 7);
        is("rule 3: the type of " + method, isAllowed(method.getReturnType()));
        super.visitMethod(tree, none);
        method = null;
        return null;
    }

    @Override
    public Void visitMethodInvocation(MethodInvocationTree tree, Void none) {
        ExecutableElement called = (ExecutableElement) trees.getElement(getCurrentPath());
        TypeMirror owner = called.getEnclosingElement().asType();
        if (isOwn(owner)) {
            calls.get(method).add(called);
        } else if (called.getKind() != ElementKind.CONSTRUCTOR) {
            String name = owner + "." + called.getSimpleName();
            is("rule 4: the library's " + name, LIBRARY.contains(name));
        }
        return super.visitMethodInvocation(tree, none);
    }

    // The room of a run is kept small: rows and objects are made with the object alone.
    @Override
    public Void visitNewClass(NewClassTree tree, Void none) {
        is("rule 2: no anonymous class: line " + line(tree), tree.getClassBody() == null);
        is("rule 12: made in a constructor: line " + line(tree), isMaking());
        return super.visitNewClass(tree, none);
    }

    @Override
    public Void visitNewArray(NewArrayTree tree, Void none) {
        is("rule 12: made in a constructor: line " + line(tree), isMaking());
        return super.visitNewArray(tree, none);
    }

    private boolean isMaking() {
        return method == null || method.getKind() == ElementKind.CONSTRUCTOR;
    }

    @Override
    public Void visitBinary(BinaryTree tree, Void none) {
        TypeMirror type = trees.getTypeMirror(getCurrentPath());
        is("rule 10: no texts joined by +: line " + line(tree), type.getKind().isPrimitive());
        boolean compares = tree.getKind() == Tree.Kind.EQUAL_TO || tree.getKind() == Tree.Kind.NOT_EQUAL_TO;
        if (compares) {
            TypeMirror left = typeOf(tree.getLeftOperand());
            TypeMirror right = typeOf(tree.getRightOperand());
            is("rule 6: numbers are compared: line " + line(tree),
                    left.getKind().isPrimitive() && right.getKind().isPrimitive());
        }
        return super.visitBinary(tree, none);
    }

    private TypeMirror typeOf(Tree tree) {
        return trees.getTypeMirror(new com.sun.source.util.TreePath(getCurrentPath(), tree));
    }

    @Override
    public Void visitCompoundAssignment(CompoundAssignmentTree tree, Void none) {
        TypeMirror type = trees.getTypeMirror(getCurrentPath());
        is("rule 10: no texts joined by +=: line " + line(tree), type.getKind().isPrimitive());
        return super.visitCompoundAssignment(tree, none);
    }

    @Override
    public Void visitTypeCast(TypeCastTree tree, Void none) {
        is("rule 6: casts of numbers alone: line " + line(tree), typeOf(tree.getType()).getKind().isPrimitive());
        return super.visitTypeCast(tree, none);
    }

    // A loop without a bound of its own would have no condition, or true as one.
    @Override
    public Void visitForLoop(ForLoopTree tree, Void none) {
        is("rule 9: a bound: line " + line(tree), tree.getCondition() instanceof BinaryTree);
        is("rule 9: a counter: line " + line(tree), !tree.getUpdate().isEmpty());
        return super.visitForLoop(tree, none);
    }

    @Override
    public Void visitWhileLoop(WhileLoopTree tree, Void none) {
        is("rule 9: a bound: line " + line(tree), tree.getCondition().toString().startsWith("(next < length &&"));
        return super.visitWhileLoop(tree, none);
    }

    @Override
    public Void visitDoWhileLoop(DoWhileLoopTree tree, Void none) {
        refuse("rule 9: do", tree);
        return super.visitDoWhileLoop(tree, none);
    }

    @Override
    public Void visitLiteral(LiteralTree tree, Void none) {
        boolean text = tree.getValue() instanceof String;
        boolean plain = !text || ((String) tree.getValue()).chars().allMatch(c -> c >= 1 && c <= 127);
        is("rule 4: signs 1 to 127: line " + line(tree), plain);
        is("rule 6: no null: line " + line(tree), tree.getKind() != Tree.Kind.NULL_LITERAL);
        return super.visitLiteral(tree, none);
    }

    @Override
    public Void visitIdentifier(IdentifierTree tree, Void none) {
        Element element = trees.getElement(getCurrentPath());
        boolean type = element != null && (element.getKind().isClass() || element.getKind().isInterface());
        is("rule 4: the library's " + tree, !type || isOwn(element.asType()) || Set.of("java.util.Arrays",
                "java.lang.System", "java.lang.Math", "java.lang.Integer", "java.lang.String")
                .contains(element.toString()));
        return super.visitIdentifier(tree, none);
    }

    // ---- what rules 2 and 6 leave out

    @Override
    public Void visitLambdaExpression(LambdaExpressionTree tree, Void none) {
        refuse("rule 2: lambda", tree);
        return super.visitLambdaExpression(tree, none);
    }

    @Override
    public Void visitMemberReference(MemberReferenceTree tree, Void none) {
        refuse("rule 2: method reference", tree);
        return super.visitMemberReference(tree, none);
    }

    @Override
    public Void visitThrow(ThrowTree tree, Void none) {
        refuse("rule 6: throw", tree);
        return super.visitThrow(tree, none);
    }

    @Override
    public Void visitTry(TryTree tree, Void none) {
        refuse("rule 6: try", tree);
        return super.visitTry(tree, none);
    }

    @Override
    public Void visitCatch(CatchTree tree, Void none) {
        refuse("rule 6: catch", tree);
        return super.visitCatch(tree, none);
    }

    @Override
    public Void visitAssert(AssertTree tree, Void none) {
        refuse("rule 6: assert", tree);
        return super.visitAssert(tree, none);
    }

    @Override
    public Void visitSynchronized(SynchronizedTree tree, Void none) {
        refuse("rule 6: synchronized", tree);
        return super.visitSynchronized(tree, none);
    }
}
