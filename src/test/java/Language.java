import com.sun.source.tree.AssertTree;
import com.sun.source.tree.BinaryTree;
import com.sun.source.tree.BlockTree;
import com.sun.source.tree.ClassTree;
import com.sun.source.tree.CompilationUnitTree;
import com.sun.source.tree.ConditionalExpressionTree;
import com.sun.source.tree.DoWhileLoopTree;
import com.sun.source.tree.ExpressionTree;
import com.sun.source.tree.ForLoopTree;
import com.sun.source.tree.IfTree;
import com.sun.source.tree.ImportTree;
import com.sun.source.tree.InstanceOfTree;
import com.sun.source.tree.LambdaExpressionTree;
import com.sun.source.tree.LiteralTree;
import com.sun.source.tree.MemberReferenceTree;
import com.sun.source.tree.MethodInvocationTree;
import com.sun.source.tree.MethodTree;
import com.sun.source.tree.NewArrayTree;
import com.sun.source.tree.NewClassTree;
import com.sun.source.tree.SynchronizedTree;
import com.sun.source.tree.ThrowTree;
import com.sun.source.tree.Tree;
import com.sun.source.tree.TryTree;
import com.sun.source.tree.TypeCastTree;
import com.sun.source.tree.VariableTree;
import com.sun.source.tree.WhileLoopTree;
import com.sun.source.util.JavacTask;
import com.sun.source.util.TreePath;
import com.sun.source.util.TreePathScanner;
import com.sun.source.util.Trees;
import java.io.IOException;
import java.nio.file.Path;
import java.util.Iterator;
import java.util.LinkedHashMap;
import java.util.List;
import java.util.Map;
import java.util.Set;
import java.util.TreeSet;
import javax.lang.model.element.Element;
import javax.lang.model.element.ElementKind;
import javax.lang.model.element.Modifier;
import javax.lang.model.element.TypeElement;
import javax.lang.model.type.ArrayType;
import javax.lang.model.type.DeclaredType;
import javax.lang.model.type.TypeKind;
import javax.lang.model.type.TypeMirror;
import javax.tools.JavaCompiler;
import javax.tools.StandardJavaFileManager;
import javax.tools.ToolProvider;

/** The rules of LANGUAGE.md, by their numbers, as far as they can be seen from the source as the compiler reads it. */
public final class Language extends TreePathScanner<Void, Void> {
    private static final String PROGRAM = "src/main/java/KnownWeight.java";
    private static final int MOST_LINES = 60, MOST_PARAMETERS = 7, MOST_CLASSES = 12, MOST_FIELDS = 20, DEEPEST = 8;
    /** Of the library only what the class needs; a rule of LANGUAGE.md allows some more. */
    private static final Set<String> LIBRARY = Set.of("java.lang.Integer.bitCount", "java.lang.Math.min", "java.lang.Math.max",
        "java.lang.System.arraycopy", "java.util.Arrays.fill");
    private static final Set<String> CONSTANT_TYPES = Set.of("int", "long", "boolean", "char", "java.lang.String", "int[]", "long[]",
        "char[]", "byte[]");

    private final Trees trees;
    private final CompilationUnitTree unit;
    /** Of each method the methods of the class that it calls. */
    private final Map<Element, Set<Element>> calls = new LinkedHashMap<>();
    private final Set<String> publicNames = new TreeSet<>();
    private int classes;
    private int wrong;

    private Language(Trees trees, CompilationUnitTree unit) {
        this.trees = trees;
        this.unit = unit;
    }

    public static void main(String[] args) throws IOException {
        JavaCompiler compiler = ToolProvider.getSystemJavaCompiler();
        try (StandardJavaFileManager files = compiler.getStandardFileManager(null, null, null)) {
            JavacTask task = (JavacTask) compiler.getTask(null, files, null, List.of("-proc:none", "--release", "17"), null,
                files.getJavaFileObjects(Path.of(PROGRAM)));
            Iterator<? extends CompilationUnitTree> units = task.parse().iterator();
            CompilationUnitTree unit = units.next();
            task.analyze();
            Language language = new Language(Trees.instance(task), unit);
            language.checkAll();
            System.out.println(language.wrong == 0 ? "the rules are kept" : language.wrong + " times a rule is broken");
            if (language.wrong != 0) {
                System.exit(1);
            }
        }
    }

    private void checkAll() {
        check(unit.getPackageName() == null, unit, 0, "a package line");
        check(unit.getTypeDecls().size() == 1, unit, 1, "more than one class in the file");
        scan(unit, null);
        check(classes <= MOST_CLASSES, unit, 11, classes + " classes");
        check(publicNames.size() == 28, unit, 1, publicNames.size() + " public methods");
        for (Element method : calls.keySet()) {
            check(method.getModifiers().contains(Modifier.PUBLIC) || !publicNames.contains(method.getSimpleName().toString()), unit, 1,
                method + " bears the name of a public one");
            int deep = depth(method, 0);
            check(deep <= DEEPEST, unit, 11, method + " goes " + deep + " calls deep");
        }
    }

    /** Longer than any way without a return to where it began, if methods call one another in a ring. */
    private int depth(Element method, int level) {
        int deepest = 0;
        if (level <= DEEPEST) {
            for (Element called : calls.getOrDefault(method, Set.of())) {
                deepest = Math.max(deepest, depth(called, level + 1));
            }
        }
        return deepest + 1;
    }

    private void check(boolean good, Tree at, int rule, String what) {
        if (!good) {
            wrong++;
            long line = unit.getLineMap().getLineNumber(trees.getSourcePositions().getStartPosition(unit, at));
            System.out.println("rule " + rule + ", line " + line + ": " + what);
        }
    }

    private void forbid(Tree at, int rule, String what) {
        check(false, at, rule, what);
    }

    /** The method that the tree stands in; null: a field's initialiser. */
    private Element methodAround() {
        for (TreePath path = getCurrentPath(); path != null; path = path.getParentPath()) {
            if (path.getLeaf() instanceof MethodTree) {
                return trees.getElement(path);
            }
        }
        return null;
    }

    private boolean isOwn(Element element) {
        Element outermost = element;
        while (outermost != null && outermost.getEnclosingElement() instanceof TypeElement) {
            outermost = outermost.getEnclosingElement();
        }
        return outermost != null && outermost.toString().equals("KnownWeight");
    }

    private boolean isGoodType(TypeMirror type) {
        if (type.getKind().isPrimitive() || type.getKind() == TypeKind.VOID) {
            return true;
        }
        if (type instanceof ArrayType) {
            TypeMirror of = ((ArrayType) type).getComponentType();
            boolean rowsOfNumbers = of instanceof ArrayType && ((ArrayType) of).getComponentType().getKind().isPrimitive();
            return of.getKind().isPrimitive() || rowsOfNumbers || of instanceof DeclaredType && isGoodType(of);
        }
        return type instanceof DeclaredType && isOwn(((DeclaredType) type).asElement());
    }

    @Override
    public Void visitImport(ImportTree tree, Void none) {
        check(tree.getQualifiedIdentifier().toString().equals("java.util.Arrays"), tree, 4, tree.toString());
        return null;
    }

    @Override
    public Void visitClass(ClassTree tree, Void none) {
        classes++;
        Element element = trees.getElement(getCurrentPath());
        Set<Modifier> has = element.getModifiers();
        if (element.getEnclosingElement() instanceof TypeElement) {
            check(has.contains(Modifier.STATIC) && !has.contains(Modifier.PUBLIC) && !has.contains(Modifier.PROTECTED), tree, 1,
                element + " is not private or package-visible and static");
        } else {
            check(has.contains(Modifier.PUBLIC) && has.contains(Modifier.FINAL), tree, 1, "not public and final");
            checkFace(tree, element);
        }
        check(getCurrentPath().getParentPath().getLeaf() == unit || getCurrentPath().getParentPath().getLeaf() instanceof ClassTree, tree,
            2, "a class inside a method");
        long fields = element.getEnclosedElements().stream()
            .filter(e -> e.getKind() == ElementKind.FIELD && !e.getModifiers().contains(Modifier.STATIC)).count();
        check(fields <= MOST_FIELDS, tree, 11, element + " has " + fields + " fields");
        return super.visitClass(tree, none);
    }

    private void checkFace(Tree tree, Element face) {
        for (Element member : face.getEnclosedElements()) {
            Set<Modifier> has = member.getModifiers();
            boolean inside = member instanceof TypeElement;
            check(inside || has.contains(Modifier.PRIVATE) || has.contains(Modifier.PUBLIC), tree, 1, member + " is seen from outside");
            if (has.contains(Modifier.PUBLIC) && member.getKind() == ElementKind.METHOD) {
                publicNames.add(member.getSimpleName().toString());
            }
        }
    }

    @Override
    public Void visitBlock(BlockTree tree, Void none) {
        check(!(getCurrentPath().getParentPath().getLeaf() instanceof ClassTree), tree, 5, "an initialiser block");
        return super.visitBlock(tree, none);
    }

    @Override
    public Void visitMethod(MethodTree tree, Void none) {
        Element method = trees.getElement(getCurrentPath());
        calls.putIfAbsent(method, new java.util.LinkedHashSet<>());
        check(tree.getParameters().size() <= MOST_PARAMETERS, tree, 11, method + " takes too much");
        check(tree.getThrows().isEmpty(), tree, 6, method + " throws");
        check(Set.of("equals", "hashCode", "toString").stream().noneMatch(tree.getName()::contentEquals), tree, 6, method.toString());
        boolean odd = Set.of(Modifier.SYNCHRONIZED, Modifier.NATIVE).stream().anyMatch(method.getModifiers()::contains);
        check(!odd, tree, 6, method + " is synchronized or native");
        long from = trees.getSourcePositions().getStartPosition(unit, tree);
        long to = trees.getSourcePositions().getEndPosition(unit, tree);
        if (to >= 0) {
            long lines = unit.getLineMap().getLineNumber(to) - unit.getLineMap().getLineNumber(from) + 1;
            check(lines <= MOST_LINES, tree, 11, method + " has " + lines + " lines");
        }
        if (tree.getReturnType() != null) {
            TypeMirror type = trees.getTypeMirror(new TreePath(getCurrentPath(), tree.getReturnType()));
            check(isGoodType(type), tree, 3, method + " answers a " + type);
        }
        return super.visitMethod(tree, none);
    }

    @Override
    public Void visitVariable(VariableTree tree, Void none) {
        Element variable = trees.getElement(getCurrentPath());
        TypeMirror type = variable.asType();
        boolean isStatic = variable.getModifiers().contains(Modifier.STATIC);
        check(isStatic || isGoodType(type), tree, 3, variable + " is a " + type);
        if (isStatic) {
            check(variable.getModifiers().contains(Modifier.FINAL) && CONSTANT_TYPES.contains(type.toString()), tree, 5,
                variable + " is no constant");
        }
        check(!variable.getModifiers().contains(Modifier.VOLATILE), tree, 13, variable + " is volatile");
        return super.visitVariable(tree, none);
    }

    @Override
    public Void visitMethodInvocation(MethodInvocationTree tree, Void none) {
        Element called = trees.getElement(getCurrentPath());
        if (isOwn(called)) {
            Element from = methodAround();
            check(from != null, tree, 12, "a field's initialiser calls " + called);
            if (from != null) {
                calls.computeIfAbsent(from, e -> new java.util.LinkedHashSet<>()).add(called);
                check(from.getKind() != ElementKind.CONSTRUCTOR, tree, 12, "a constructor calls " + called);
            }
        } else if (called.getKind() == ElementKind.METHOD) {
            String name = called.getEnclosingElement() + "." + called.getSimpleName();
            check(LIBRARY.contains(name), tree, 4, name);
        }
        return super.visitMethodInvocation(tree, none);
    }

    /** README.md says so, and the one room of all calls asks for it; the rules themselves would allow a few. */
    private void checkNothingIsMade(Tree tree) {
        Element around = methodAround();
        check(around == null || around.getKind() == ElementKind.CONSTRUCTOR, tree, 12, around + " makes something");
    }

    @Override
    public Void visitNewClass(NewClassTree tree, Void none) {
        check(tree.getClassBody() == null, tree, 2, "a class without a name");
        checkNothingIsMade(tree);
        return super.visitNewClass(tree, none);
    }

    @Override
    public Void visitNewArray(NewArrayTree tree, Void none) {
        checkNothingIsMade(tree);
        return super.visitNewArray(tree, none);
    }

    @Override
    public Void visitBinary(BinaryTree tree, Void none) {
        if (tree.getKind() == Tree.Kind.DIVIDE || tree.getKind() == Tree.Kind.REMAINDER) {
            check(isLookedAt(tree.getRightOperand()), tree, 7, "a divisor that is not looked at: " + tree);
        }
        for (ExpressionTree side : List.of(tree.getLeftOperand(), tree.getRightOperand())) {
            TypeMirror type = trees.getTypeMirror(new TreePath(getCurrentPath(), side));
            check(type == null || type.getKind().isPrimitive() || type.getKind() == TypeKind.NULL || isGoodType(type), tree, 10,
                "not of numbers: " + tree);
        }
        return super.visitBinary(tree, none);
    }

    /** A number as it stands, or one that a condition around it asks for. */
    private boolean isLookedAt(ExpressionTree divisor) {
        if (divisor instanceof LiteralTree) {
            return !divisor.toString().equals("0");
        }
        for (TreePath path = getCurrentPath(); path != null && !(path.getLeaf() instanceof MethodTree); path = path.getParentPath()) {
            Tree leaf = path.getLeaf();
            Tree condition = leaf instanceof ConditionalExpressionTree ? ((ConditionalExpressionTree) leaf).getCondition()
                : leaf instanceof IfTree ? ((IfTree) leaf).getCondition() : null;
            if (condition != null && condition.toString().contains(divisor.toString())) {
                return true;
            }
        }
        return false;
    }

    @Override
    public Void visitTypeCast(TypeCastTree tree, Void none) {
        TypeMirror type = trees.getTypeMirror(new TreePath(getCurrentPath(), tree.getType()));
        check(type.getKind().isPrimitive(), tree, 6, "a cast to " + type);
        return super.visitTypeCast(tree, none);
    }

    @Override
    public Void visitForLoop(ForLoopTree tree, Void none) {
        check(tree.getCondition() != null && !tree.getUpdate().isEmpty(), tree, 9, "a loop without a seen end");
        return super.visitForLoop(tree, none);
    }

    @Override
    public Void visitWhileLoop(WhileLoopTree tree, Void none) {
        check(tree.getCondition().toString().contains("<"), tree, 9, "a loop without a counter against a bound");
        return super.visitWhileLoop(tree, none);
    }

    @Override
    public Void visitDoWhileLoop(DoWhileLoopTree tree, Void none) {
        check(tree.getCondition().toString().contains("<"), tree, 9, "a loop without a counter against a bound");
        return super.visitDoWhileLoop(tree, none);
    }

    @Override
    public Void visitLambdaExpression(LambdaExpressionTree tree, Void none) {
        forbid(tree, 2, "a lambda");
        return super.visitLambdaExpression(tree, none);
    }

    @Override
    public Void visitMemberReference(MemberReferenceTree tree, Void none) {
        forbid(tree, 2, "a method reference");
        return super.visitMemberReference(tree, none);
    }

    @Override
    public Void visitThrow(ThrowTree tree, Void none) {
        forbid(tree, 6, "a throw");
        return super.visitThrow(tree, none);
    }

    @Override
    public Void visitTry(TryTree tree, Void none) {
        forbid(tree, 6, "a try");
        return super.visitTry(tree, none);
    }

    @Override
    public Void visitSynchronized(SynchronizedTree tree, Void none) {
        forbid(tree, 6, "a synchronized");
        return super.visitSynchronized(tree, none);
    }

    @Override
    public Void visitAssert(AssertTree tree, Void none) {
        forbid(tree, 6, "an assert");
        return super.visitAssert(tree, none);
    }

    @Override
    public Void visitInstanceOf(InstanceOfTree tree, Void none) {
        check(tree.getPattern() == null || isGoodType(trees.getTypeMirror(getCurrentPath())), tree, 6, tree.toString());
        return super.visitInstanceOf(tree, none);
    }
}
