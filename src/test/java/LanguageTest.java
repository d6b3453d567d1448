import com.sun.source.tree.AssertTree;
import com.sun.source.tree.BinaryTree;
import com.sun.source.tree.BlockTree;
import com.sun.source.tree.ClassTree;
import com.sun.source.tree.CompoundAssignmentTree;
import com.sun.source.tree.DoWhileLoopTree;
import com.sun.source.tree.ExpressionTree;
import com.sun.source.tree.ForLoopTree;
import com.sun.source.tree.ImportTree;
import com.sun.source.tree.LambdaExpressionTree;
import com.sun.source.tree.LiteralTree;
import com.sun.source.tree.MemberReferenceTree;
import com.sun.source.tree.MethodInvocationTree;
import com.sun.source.tree.MethodTree;
import com.sun.source.tree.NewArrayTree;
import com.sun.source.tree.NewClassTree;
import com.sun.source.tree.SynchronizedTree;
import com.sun.source.tree.ThrowTree;
import com.sun.source.tree.Tree;
import com.sun.source.tree.TryTree;
import com.sun.source.tree.VariableTree;
import com.sun.source.tree.WhileLoopTree;
import com.sun.source.util.TreePath;
import com.sun.source.util.TreePathScanner;
import java.nio.file.Files;
import java.nio.file.Path;
import java.util.LinkedHashSet;
import java.util.List;
import java.util.Map;
import java.util.Set;
import javax.lang.model.element.Element;
import javax.lang.model.element.ElementKind;
import javax.lang.model.element.ExecutableElement;
import javax.lang.model.element.Modifier;
import javax.lang.model.type.ArrayType;
import javax.lang.model.type.DeclaredType;
import javax.lang.model.type.TypeKind;
import javax.lang.model.type.TypeMirror;

/**
 * The rules of LANGUAGE.md that the compiler's trees can tell, each by its number. The class needs less than the
 * rules leave (no lists, no try, no doubles): what it doesn't use is not let in here either.
 */
public final class LanguageTest extends TreePathScanner<Void, Void> {
    private static final Path FILE = Path.of("src/main/java/CoverTwo.java");
    private static final Set<TypeKind> NUMBERS = Set.of(TypeKind.INT, TypeKind.LONG, TypeKind.SHORT, TypeKind.BYTE,
        TypeKind.CHAR, TypeKind.BOOLEAN);
    private static final Map<String, String> LIBRARY = Map.of(
        "java.lang.String", "length|charAt|isEmpty|equals|indexOf|substring|toCharArray",
        "java.lang.Integer", "compare|max|min|bitCount",
        "java.lang.Long", "compare|max|min|bitCount",
        "java.lang.Math", "max|min|abs|floorDiv|floorMod",
        "java.lang.System", "arraycopy",
        "java.util.Arrays", "copyOf|copyOfRange|fill",
        "java.lang.Object", "<init>");
    private static final String THROWN = "IllegalStateException|IllegalArgumentException|IndexOutOfBoundsException"
        + "|ArithmeticException|UnsupportedOperationException|NoSuchElementException|RuntimeException";
    private static final int MOST_CLASSES = 12;
    private static final int MOST_FIELDS = 20;
    private static final int MOST_LINES = 60;
    private static final int MOST_PARAMETERS = 7;
    private static final int MOST_DEEP = 8;
    private final Check check = new Check();
    private final Source source;
    private int classes;

    private LanguageTest(Source source) {
        this.source = source;
    }

    public static void main(String[] args) throws Exception {
        LanguageTest test = new LanguageTest(Source.read(FILE));
        test.check.due("1: types that the file tells", test.source.unit.getTypeDecls().size(), 1);
        test.check.due("1: a package line", test.source.unit.getPackage() != null, false);
        test.scan(test.source.unit, null);
        test.check.due("11: " + test.classes + " classes", test.classes <= MOST_CLASSES, true);
        test.calls();
        test.signs();
        test.check.end();
    }

    private void keeps(int rule, Tree tree, String what, boolean holds) {
        check.due("rule " + rule + ", line " + source.line(tree) + ": " + what, holds, true);
    }

    private void ruledOut(int rule, Tree tree) {
        keeps(rule, tree, tree.getKind() + " is ruled out", false);
    }

    private boolean isIn(Tree.Kind kind) {
        for (TreePath path = getCurrentPath().getParentPath(); path != null; path = path.getParentPath()) {
            if (path.getLeaf().getKind() == kind) {
                return true;
            }
        }
        return false;
    }

    private TypeMirror typeOf(Tree tree) {
        return source.trees.getTypeMirror(new TreePath(getCurrentPath(), tree));
    }

    private boolean isString(Tree tree) {
        TypeMirror type = typeOf(tree);
        return type != null && type.toString().equals("java.lang.String");
    }

    /** Rule 3: numbers, Strings, own classes, arrays of numbers or own classes, of two dimensions only of numbers. */
    private boolean isLeft(TypeMirror type) {
        if (type instanceof ArrayType array) {
            TypeMirror part = array.getComponentType();
            boolean twice = part instanceof ArrayType inner && NUMBERS.contains(inner.getComponentType().getKind());
            return twice || !(part instanceof ArrayType) && isLeft(part) && !part.toString().equals("java.lang.String");
        }
        return NUMBERS.contains(type.getKind()) || type.getKind() == TypeKind.VOID
            || type.toString().equals("java.lang.String")
            || type instanceof DeclaredType own && source.isOwn(own.asElement());
    }

    @Override
    public Void visitImport(ImportTree tree, Void none) {
        keeps(4, tree, "imports", tree.getQualifiedIdentifier().toString().equals("java.util.NoSuchElementException"));
        return null;
    }

    @Override
    public Void visitClass(ClassTree tree, Void none) {
        classes++;
        keeps(2, tree, "a class in a method", !isIn(Tree.Kind.METHOD));
        boolean outer = tree == source.face();
        Set<Modifier> due = outer ? Set.of(Modifier.PUBLIC, Modifier.FINAL)
            : Set.of(Modifier.PRIVATE, Modifier.STATIC, Modifier.FINAL);
        keeps(1, tree, "its modifiers", tree.getModifiers().getFlags().equals(due));
        int fields = 0;
        for (Tree member : tree.getMembers()) {
            keeps(5, member, "a block of an initialiser", !(member instanceof BlockTree));
            boolean field = member instanceof VariableTree;
            fields += field && !((VariableTree) member).getModifiers().getFlags().contains(Modifier.STATIC) ? 1 : 0;
        }
        keeps(11, tree, fields + " fields", fields <= MOST_FIELDS);
        return super.visitClass(tree, none);
    }

    @Override
    public Void visitVariable(VariableTree tree, Void none) {
        Element element = source.trees.getElement(getCurrentPath());
        keeps(3, tree, "type " + element.asType(), isLeft(element.asType()));
        if (element.getModifiers().contains(Modifier.STATIC)) {
            boolean written = NUMBERS.contains(element.asType().getKind()) || isString(tree.getType())
                || tree.getInitializer() instanceof NewArrayTree array && array.getInitializers() != null;
            keeps(5, tree, "a static field", element.getModifiers().contains(Modifier.FINAL) && written);
        }
        return super.visitVariable(tree, none);
    }

    @Override
    public Void visitMethod(MethodTree tree, Void none) {
        if (tree.getReturnType() != null) {
            keeps(3, tree, "answers " + tree.getReturnType(), isLeft(typeOf(tree.getReturnType())));
        }
        keeps(11, tree, tree.getName() + " is too long", source.lines(tree) <= MOST_LINES);
        keeps(11, tree, tree.getName() + " takes too many", tree.getParameters().size() <= MOST_PARAMETERS);
        keeps(6, tree, "own " + tree.getName(), !tree.getName().toString().matches("equals|hashCode|toString"));
        return super.visitMethod(tree, none);
    }

    @Override
    public Void visitMethodInvocation(MethodInvocationTree tree, Void none) {
        Element called = source.trees.getElement(getCurrentPath());
        if (!source.isOwn(called)) {
            String names = LIBRARY.getOrDefault(called.getEnclosingElement().toString(), "");
            keeps(4, tree, "calls " + called, called.getSimpleName().toString().matches(names));
        }
        return super.visitMethodInvocation(tree, none);
    }

    /** Rules 2, 6 and 12: calls make nothing but what they throw; all else is made with its object. */
    @Override
    public Void visitNewClass(NewClassTree tree, Void none) {
        keeps(2, tree, "a class without a name", tree.getClassBody() == null);
        boolean thrown = getCurrentPath().getParentPath().getLeaf() instanceof ThrowTree;
        boolean own = source.isOwn(source.trees.getElement(getCurrentPath()));
        keeps(12, tree, "makes " + tree.getIdentifier(), thrown || own && !isIn(Tree.Kind.METHOD));
        return super.visitNewClass(tree, none);
    }

    @Override
    public Void visitNewArray(NewArrayTree tree, Void none) {
        keeps(12, tree, "an array is made by a call", !isIn(Tree.Kind.METHOD) || inConstructor());
        for (ExpressionTree length : tree.getDimensions()) {
            boolean tested = length.toString().matches("\\d+|[A-Z_]+( \\* [A-Z_]+)?|Math\\.max\\(\\w+, [01]\\)");
            keeps(7, tree, "a length that isn't tested: " + length, tested);
        }
        return super.visitNewArray(tree, none);
    }

    private boolean inConstructor() {
        for (TreePath path = getCurrentPath(); path != null; path = path.getParentPath()) {
            if (path.getLeaf() instanceof MethodTree method) {
                return method.getReturnType() == null;
            }
        }
        return false;
    }

    @Override
    public Void visitThrow(ThrowTree tree, Void none) {
        boolean due = tree.getExpression() instanceof NewClassTree made
            && made.getIdentifier().toString().matches(THROWN)
            && made.getArguments().stream().allMatch(text -> text instanceof LiteralTree);
        keeps(6, tree, "throws another one", due && !inConstructor());
        return super.visitThrow(tree, none);
    }

    @Override
    public Void visitBinary(BinaryTree tree, Void none) {
        boolean texts = isString(tree.getLeftOperand()) || isString(tree.getRightOperand());
        keeps(tree.getKind() == Tree.Kind.PLUS ? 10 : 6, tree, "texts by " + tree.getKind(), !texts);
        boolean divides = tree.getKind() == Tree.Kind.DIVIDE || tree.getKind() == Tree.Kind.REMAINDER;
        keeps(7, tree, "divides by " + tree.getRightOperand(), !divides || isTested(tree.getRightOperand()));
        return super.visitBinary(tree, none);
    }

    /** A divisor is a constant, or one that the loop round it tests ahead of each turn. */
    private boolean isTested(ExpressionTree divisor) {
        if (divisor.toString().matches("[A-Z_]+|\\([A-Z_]+ - [A-Z_]+\\)|[1-9]\\d*")) {
            return true;
        }
        for (TreePath path = getCurrentPath(); path != null; path = path.getParentPath()) {
            if (path.getLeaf() instanceof ForLoopTree loop
                && loop.getCondition().toString().endsWith("&& " + divisor + " > 0")) {
                return true;
            }
        }
        return false;
    }

    @Override
    public Void visitCompoundAssignment(CompoundAssignmentTree tree, Void none) {
        keeps(10, tree, "texts by " + tree.getKind(), !isString(tree.getVariable()));
        boolean divides = tree.getKind().name().matches("DIVIDE.*|REMAINDER.*");
        keeps(7, tree, tree.getKind().toString(), !divides);
        return super.visitCompoundAssignment(tree, none);
    }

    /** Rule 9: a loop's head compares something with a bound. */
    private void ends(Tree loop, ExpressionTree condition) {
        keeps(9, loop, "no bound", condition != null && condition.toString().matches(".*[<>].*"));
    }

    @Override
    public Void visitForLoop(ForLoopTree tree, Void none) {
        ends(tree, tree.getCondition());
        return super.visitForLoop(tree, none);
    }

    @Override
    public Void visitWhileLoop(WhileLoopTree tree, Void none) {
        ends(tree, tree.getCondition());
        return super.visitWhileLoop(tree, none);
    }

    @Override
    public Void visitDoWhileLoop(DoWhileLoopTree tree, Void none) {
        ends(tree, tree.getCondition());
        return super.visitDoWhileLoop(tree, none);
    }

    @Override
    public Void visitLambdaExpression(LambdaExpressionTree tree, Void none) {
        ruledOut(2, tree);
        return null;
    }

    @Override
    public Void visitMemberReference(MemberReferenceTree tree, Void none) {
        ruledOut(2, tree);
        return null;
    }

    @Override
    public Void visitTry(TryTree tree, Void none) {
        ruledOut(6, tree);
        return null;
    }

    @Override
    public Void visitSynchronized(SynchronizedTree tree, Void none) {
        ruledOut(6, tree);
        return null;
    }

    @Override
    public Void visitAssert(AssertTree tree, Void none) {
        ruledOut(6, tree);
        return null;
    }

    /** Rules 8 and 11: only private ones come back to themselves; no chain of calls is too deep. */
    private void calls() {
        for (ExecutableElement method : source.calls.keySet()) {
            String name = method.getEnclosingElement().getSimpleName() + "." + method;
            if (source.comesBack(method)) {
                boolean hidden = method.getModifiers().contains(Modifier.PRIVATE);
                check.due("rule 8: " + name + " comes back and is private", hidden, true);
            }
            int deep = source.deepest(method, new LinkedHashSet<>());
            check.due("rule 11: " + name + " calls " + deep + " deep", deep <= MOST_DEEP, true);
            boolean maker = method.getKind() == ElementKind.CONSTRUCTOR;
            check.due("rule 12: " + name + " calls", maker && !source.calls.get(method).isEmpty(), false);
        }
    }

    /** Rules 3 and 4: the signs of texts. */
    private void signs() throws Exception {
        List<String> lines = Files.readAllLines(FILE);
        for (int i = 0; i < lines.size(); i++) {
            boolean plain = lines.get(i).chars().allMatch(sign -> sign >= ' ' && sign < 127);
            check.due("rule 4, line " + (i + 1) + " has other signs", plain, true);
        }
    }
}
