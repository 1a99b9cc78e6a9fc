import com.sun.source.tree.*;
import com.sun.source.util.JavacTask;
import com.sun.source.util.TreePath;
import com.sun.source.util.TreePathScanner;
import com.sun.source.util.Trees;
import java.nio.file.Path;
import java.util.ArrayList;
import java.util.HashMap;
import java.util.HashSet;
import java.util.LinkedHashSet;
import java.util.List;
import java.util.Map;
import java.util.Set;
import javax.lang.model.element.Element;
import javax.lang.model.element.ElementKind;
import javax.lang.model.element.ExecutableElement;
import javax.lang.model.element.Modifier;
import javax.lang.model.element.TypeElement;
import javax.lang.model.type.TypeKind;
import javax.lang.model.type.TypeMirror;
import javax.tools.JavaCompiler;
import javax.tools.StandardJavaFileManager;
import javax.tools.ToolProvider;

/** What of ../shared/LANGUAGE.md can be seen from the source by the compiler's own tree of it. */
public final class LanguageTest extends TreePathScanner<Void, Void> {
    private static final Set<String> LIBRARY = Set.of("String.length", "String.charAt", "String.isEmpty", "String.equals",
            "String.substring", "String.toCharArray", "System.arraycopy", "Math.max", "Math.min", "Math.abs", "Integer.compare",
            "Integer.bitCount", "Arrays.fill", "Arrays.copyOf");
    private static final Set<String> THROWN = Set.of("IllegalStateException", "IllegalArgumentException",
            "IndexOutOfBoundsException", "ArithmeticException", "UnsupportedOperationException", "NoSuchElementException",
            "RuntimeException");
    private static final Set<Tree.Kind> NEVER = Set.of(Tree.Kind.LAMBDA_EXPRESSION, Tree.Kind.MEMBER_REFERENCE, Tree.Kind.TRY,
            Tree.Kind.SYNCHRONIZED, Tree.Kind.ASSERT, Tree.Kind.ENHANCED_FOR_LOOP, Tree.Kind.TYPE_CAST, Tree.Kind.INSTANCE_OF,
            Tree.Kind.FLOAT_LITERAL, Tree.Kind.DOUBLE_LITERAL);
    private static final int METHOD_LINES = 60;
    private static final int PARAMETERS = 7;
    private static final int CLASSES = 12;
    private static final int FIELDS = 20;
    private static final int DEPTH = 8;

    private final Check c = new Check();
    private final Trees trees;
    private final CompilationUnitTree unit;
    private final Map<ExecutableElement, Set<ExecutableElement>> calls = new HashMap<>();
    private final List<ExecutableElement> face = new ArrayList<>();
    private final Set<String> privateNames = new HashSet<>();
    private int classes = 0;

    private LanguageTest(Trees trees, CompilationUnitTree unit) {
        this.trees = trees;
        this.unit = unit;
    }

    public static void main(String[] args) throws Exception {
        JavaCompiler compiler = ToolProvider.getSystemJavaCompiler();
        try (StandardJavaFileManager files = compiler.getStandardFileManager(null, null, null)) {
            var sources = files.getJavaFileObjects(Path.of("src/main/java/RopeWalk.java"));
            JavacTask task = (JavacTask) compiler.getTask(null, files, null, List.of("-proc:none"), null, sources);
            CompilationUnitTree unit = task.parse().iterator().next();
            task.analyze();
            new LanguageTest(Trees.instance(task), unit).look();
        }
    }

    private void look() {
        scan(unit, null);
        c.part("rule 1");
        c.due("no package line", unit.getPackageName() == null, true);
        c.due("one class in the file", unit.getTypeDecls().size(), 1);
        for (ExecutableElement method : face) {
            String name = method.getSimpleName().toString();
            c.due("no private method bears the name " + name, privateNames.contains(name), false);
        }
        c.part("rule 11");
        c.due("at most twelve classes", classes <= CLASSES, true);
        for (ExecutableElement method : face) {
            int depth = depth(method, new LinkedHashSet<>());
            c.due(method.getSimpleName() + " goes at most eight deep (" + depth + ")", depth <= DEPTH, true);
        }
        c.end();
    }

    /** How many calls stand open at once at most; a method that calls itself counts once. */
    private int depth(ExecutableElement method, Set<ExecutableElement> open) {
        int deepest = 0;
        open.add(method);
        for (ExecutableElement called : calls.getOrDefault(method, Set.of())) {
            if (!open.contains(called)) {
                deepest = Math.max(deepest, depth(called, open));
            } else {
                c.part("rule 8");
                c.due(called + " is called only by itself anew", called.equals(method), true);
            }
        }
        open.remove(method);
        return deepest + 1;
    }

    @Override
    public Void scan(Tree tree, Void none) {
        if (tree != null && NEVER.contains(tree.getKind())) {
            // A cast is looked at by itself: only of numbers, which can't fail.
            boolean isNumber = tree instanceof TypeCastTree cast && cast.getType().getKind() == Tree.Kind.PRIMITIVE_TYPE;
            c.part("rules 2, 3, 6");
            c.due(where(tree) + "no " + tree.getKind(), isNumber, true);
        }
        return super.scan(tree, none);
    }

    private String where(Tree tree) {
        long at = trees.getSourcePositions().getStartPosition(unit, tree);
        return "line " + unit.getLineMap().getLineNumber(at) + ": ";
    }

    private Element element() {
        return trees.getElement(getCurrentPath());
    }

    @Override
    public Void visitImport(ImportTree tree, Void none) {
        c.part("rule 4");
        c.due(where(tree) + "import", tree.getQualifiedIdentifier().toString().equals("java.util.NoSuchElementException"), true);
        return super.visitImport(tree, none);
    }

    @Override
    public Void visitClass(ClassTree tree, Void none) {
        classes++;
        TypeElement type = (TypeElement) element();
        boolean isFace = type.getEnclosingElement().getKind() == ElementKind.PACKAGE;
        c.part("rules 1, 2");
        c.due(where(tree) + "final", type.getModifiers().contains(Modifier.FINAL), true);
        c.due(where(tree) + "public or private", type.getModifiers().contains(isFace ? Modifier.PUBLIC : Modifier.PRIVATE), true);
        c.due(where(tree) + "static inside", isFace || type.getModifiers().contains(Modifier.STATIC), true);
        int fields = 0;
        for (Tree member : tree.getMembers()) {
            if (member instanceof VariableTree field && !field.getModifiers().getFlags().contains(Modifier.STATIC)) {
                fields++;
            }
            c.due(where(member) + "no block of its own", member.getKind() != Tree.Kind.BLOCK, true);
        }
        c.part("rule 11");
        c.due(type.getSimpleName() + " has some twenty fields", fields <= FIELDS, true);
        return super.visitClass(tree, none);
    }

    @Override
    public Void visitMethod(MethodTree tree, Void none) {
        ExecutableElement method = (ExecutableElement) element();
        boolean isOfFace = !((TypeElement) method.getEnclosingElement()).getNestingKind().isNested();
        boolean isPublic = method.getModifiers().contains(Modifier.PUBLIC);
        c.part("rule 1");
        if (isOfFace && isPublic && method.getKind() == ElementKind.METHOD) {
            face.add(method);
        } else if (isOfFace && !isPublic) {
            c.due(where(tree) + "private", method.getModifiers().contains(Modifier.PRIVATE), true);
        }
        if (!isPublic) {
            privateNames.add(method.getSimpleName().toString());
        }
        c.part("rule 11");
        c.due(where(tree) + "parameters", tree.getParameters().size() <= PARAMETERS, true);
        LineMap lines = unit.getLineMap();
        long start = trees.getSourcePositions().getStartPosition(unit, tree);
        long end = trees.getSourcePositions().getEndPosition(unit, tree);
        if (end >= 0) {
            c.due(where(tree) + "short", lines.getLineNumber(end) - lines.getLineNumber(start) < METHOD_LINES, true);
        }
        return super.visitMethod(tree, none);
    }

    @Override
    public Void visitVariable(VariableTree tree, Void none) {
        Element variable = element();
        Set<Modifier> marks = variable.getModifiers();
        if (variable.getKind() == ElementKind.FIELD && marks.contains(Modifier.STATIC)) {
            c.part("rule 5");
            c.due(where(tree) + "static is final", marks.contains(Modifier.FINAL), true);
            c.due(where(tree) + "a constant", tree.getInitializer() instanceof LiteralTree || isNegative(tree.getInitializer())
                    || tree.getInitializer().toString().equals("Long.MIN_VALUE"), true);
        } else if (variable.getKind() == ElementKind.FIELD) {
            c.part("rule 1");
            c.due(where(tree) + "private", marks.contains(Modifier.PRIVATE), true);
        }
        c.part("rule 3");
        c.due(where(tree) + "a type that may be: " + variable.asType(), isType(variable.asType()), true);
        return super.visitVariable(tree, none);
    }

    private static boolean isNegative(ExpressionTree tree) {
        return tree instanceof UnaryTree unary && unary.getExpression() instanceof LiteralTree;
    }

    /** Whole numbers, truths, own classes, rows of them. */
    private static boolean isType(TypeMirror type) {
        String name = type.toString();
        boolean isRow = type.getKind() == TypeKind.ARRAY;
        String of = isRow ? name.substring(0, name.length() - 2) : name;
        return Set.of("int", "long", "boolean", "char").contains(of) || of.startsWith("RopeWalk")
                || (!isRow && of.equals("java.lang.String"));
    }

    @Override
    public Void visitMethodInvocation(MethodInvocationTree tree, Void none) {
        ExecutableElement called = (ExecutableElement) trees.getElement(new TreePath(getCurrentPath(), tree.getMethodSelect()));
        String owner = called.getEnclosingElement().toString();
        c.part("rule 4");
        if (!owner.startsWith("RopeWalk") && called.getKind() == ElementKind.METHOD) {
            String name = called.getEnclosingElement().getSimpleName() + "." + called.getSimpleName();
            c.due(where(tree) + name, LIBRARY.contains(name), true);
        }
        ExecutableElement caller = caller();
        if (caller != null && owner.startsWith("RopeWalk")) {
            calls.computeIfAbsent(caller, m -> new LinkedHashSet<>()).add(called);
        }
        return super.visitMethodInvocation(tree, none);
    }

    private ExecutableElement caller() {
        for (TreePath path = getCurrentPath(); path != null; path = path.getParentPath()) {
            if (path.getLeaf() instanceof MethodTree) {
                return (ExecutableElement) trees.getElement(path);
            }
        }
        return null;
    }

    @Override
    public Void visitNewClass(NewClassTree tree, Void none) {
        made(tree, tree.getClassBody() == null);
        return super.visitNewClass(tree, none);
    }

    @Override
    public Void visitNewArray(NewArrayTree tree, Void none) {
        made(tree, tree.getDimensions().size() == 1);
        return super.visitNewArray(tree, none);
    }

    /** The room is one for all calls of a run: nothing is made but with the object itself, or to be thrown. */
    private void made(Tree tree, boolean isPlain) {
        ExecutableElement caller = caller();
        boolean isThrown = getCurrentPath().getParentPath().getLeaf().getKind() == Tree.Kind.THROW;
        c.part("rule 12");
        c.due(where(tree) + "plain", isPlain, true);
        c.due(where(tree) + "made once", caller == null || caller.getKind() == ElementKind.CONSTRUCTOR || isThrown, true);
    }

    @Override
    public Void visitThrow(ThrowTree tree, Void none) {
        boolean isNew = tree.getExpression() instanceof NewClassTree;
        c.part("rule 6");
        c.due(where(tree) + "throws what is new", isNew, true);
        c.due(where(tree) + "one of the seven", isNew && THROWN.contains(((NewClassTree) tree.getExpression()).getIdentifier()
                .toString()), true);
        c.due(where(tree) + "only rope() throws", caller() != null && caller().getSimpleName().contentEquals("rope"), true);
        return super.visitThrow(tree, none);
    }

    @Override
    public Void visitBinary(BinaryTree tree, Void none) {
        TypeMirror type = trees.getTypeMirror(getCurrentPath());
        c.part("rule 10");
        c.due(where(tree) + "texts are not joined by +", type.toString().equals("java.lang.String"), false);
        return super.visitBinary(tree, none);
    }
}
