import com.sun.source.tree.ArrayAccessTree;
import com.sun.source.tree.AssertTree;
import com.sun.source.tree.AssignmentTree;
import com.sun.source.tree.BinaryTree;
import com.sun.source.tree.BlockTree;
import com.sun.source.tree.CatchTree;
import com.sun.source.tree.ClassTree;
import com.sun.source.tree.CompoundAssignmentTree;
import com.sun.source.tree.DoWhileLoopTree;
import com.sun.source.tree.ExpressionTree;
import com.sun.source.tree.ForLoopTree;
import com.sun.source.tree.IdentifierTree;
import com.sun.source.tree.ImportTree;
import com.sun.source.tree.LambdaExpressionTree;
import com.sun.source.tree.LiteralTree;
import com.sun.source.tree.MemberReferenceTree;
import com.sun.source.tree.MemberSelectTree;
import com.sun.source.tree.MethodInvocationTree;
import com.sun.source.tree.MethodTree;
import com.sun.source.tree.NewArrayTree;
import com.sun.source.tree.NewClassTree;
import com.sun.source.tree.SwitchExpressionTree;
import com.sun.source.tree.SwitchTree;
import com.sun.source.tree.SynchronizedTree;
import com.sun.source.tree.ThrowTree;
import com.sun.source.tree.Tree;
import com.sun.source.tree.TryTree;
import com.sun.source.tree.TypeCastTree;
import com.sun.source.tree.UnaryTree;
import com.sun.source.tree.VariableTree;
import com.sun.source.tree.WhileLoopTree;
import com.sun.source.util.TreePath;
import com.sun.source.util.TreePathScanner;
import java.io.IOException;
import java.util.ArrayList;
import java.util.List;
import java.util.Map;
import java.util.Set;
import java.util.TreeMap;
import java.util.TreeSet;
import javax.lang.model.element.Element;
import javax.lang.model.element.ElementKind;
import javax.lang.model.element.ExecutableElement;
import javax.lang.model.element.Modifier;
import javax.lang.model.element.TypeElement;
import javax.lang.model.element.VariableElement;
import javax.lang.model.type.ArrayType;
import javax.lang.model.type.DeclaredType;
import javax.lang.model.type.TypeKind;
import javax.lang.model.type.TypeMirror;

/** The rules of LANGUAGE.md that can be seen in the program's text; of rule 12, the room, RoomTest asks. */
final class LanguageTest extends TreePathScanner<Void, Void> {
    private static final int MOST_PARAMETERS = 7, MOST_LINES = 60, MOST_DEEP = 8, MOST_CLASSES = 12, MOST_FIELDS = 20;
    private static final Set<String> IMPORTS = Set.of("java.util.ArrayList", "java.util.List", "java.util.Arrays",
        "java.util.Iterator");
    private static final Set<String> LIBRARY_TYPES = Set.of("java.lang.String", "java.lang.StringBuilder",
        "java.lang.Integer", "java.util.ArrayList", "java.util.List", "java.util.Iterator", "java.lang.Iterable",
        "java.lang.Comparable");
    private static final Set<String> LIBRARY = Set.of("java.lang.String.length()", "java.lang.String.charAt(int)",
        "java.lang.String.isEmpty()", "java.lang.String.equals(java.lang.Object)", "java.lang.String.indexOf(int)",
        "java.lang.String.substring(int)", "java.lang.String.substring(int,int)", "java.lang.String.toCharArray()",
        "java.lang.String.String(char[])", "java.lang.StringBuilder.StringBuilder()",
        "java.lang.StringBuilder.append(char)", "java.lang.StringBuilder.append(java.lang.String)",
        "java.lang.StringBuilder.append(int)", "java.lang.StringBuilder.charAt(int)",
        "java.lang.StringBuilder.setCharAt(int,char)", "java.lang.StringBuilder.setLength(int)",
        "java.lang.StringBuilder.deleteCharAt(int)", "java.lang.StringBuilder.reverse()",
        "java.lang.StringBuilder.length()", "java.lang.StringBuilder.toString()", "java.lang.Object.Object()");
    private static final Set<String> LISTS = Set.of("ArrayList()", "add(E)", "add(int,E)", "get(int)", "set(int,E)",
        "remove(int)", "size()", "isEmpty()", "clear()", "hasNext()", "next()");
    private static final Check C = new Check("language");

    private final Source source;
    private final Set<String> own = new TreeSet<>();
    private final Map<String, Set<String>> calls = new TreeMap<>();
    private int classes = 0;

    private LanguageTest(Source source) {
        this.source = source;
    }

    public static void main(String[] args) throws IOException {
        LanguageTest rules = new LanguageTest(new Source(Source.PROGRAM));
        C.sentence("one file, without a package line: one public class with the document's face");
        C.holds("without a package line", rules.source.unit.getPackageName() == null);
        C.due("classes of the file", rules.source.unit.getTypeDecls().size(), 1);
        C.holds("signs of the file are 1 to 127", rules.source.text.chars().allMatch(c -> c > 0 && c < 128));
        C.sentence("rules 1 to 11 and 13, line by line");
        rules.scan(rules.source.unit, null);
        C.sentence("11. the file has at most some twelve classes");
        C.due("classes", Math.max(MOST_CLASSES, rules.classes), MOST_CLASSES);
        rules.depth();
        C.end();
    }

    private void rule(String rule, Tree at, boolean holds) {
        C.holds(rule + " (line " + source.line(at) + ")", holds);
    }

    private Element element(Tree tree) {
        return source.trees.getElement(new TreePath(getCurrentPath(), tree));
    }

    private TypeMirror type(Tree tree) {
        return source.trees.getTypeMirror(new TreePath(getCurrentPath(), tree));
    }

    private static boolean isOwn(TypeElement type) {
        return type.getQualifiedName().toString().startsWith("BumperBalls");
    }

    private static boolean isText(TypeMirror type) {
        return type != null && (type.toString().equals("java.lang.String") || type.toString().equals("java.lang.Integer"));
    }

    // ---- 1, 2: classes, members

    @Override
    public Void visitImport(ImportTree tree, Void none) {
        String name = tree.getQualifiedIdentifier().toString();
        rule("4. import of " + name, tree, !tree.isStatic() && IMPORTS.contains(name));
        return null;
    }

    @Override
    public Void visitClass(ClassTree tree, Void none) {
        classes++;
        Tree around = getCurrentPath().getParentPath().getLeaf();
        Set<Modifier> modifiers = tree.getModifiers().getFlags();
        boolean isInside = around instanceof ClassTree;
        rule("2. no local or anonymous class", tree, isInside || around == source.unit);
        if (isInside) {
            rule("1. a class inside is private or package-visible", tree, !modifiers.contains(Modifier.PUBLIC)
                && !modifiers.contains(Modifier.PROTECTED));
            rule("2. a class inside is static", tree, tree.getKind() != Tree.Kind.CLASS || modifiers.contains(Modifier.STATIC));
        }
        int fields = 0;
        for (Tree member : tree.getMembers()) {
            rule("5. no static initialiser block", member, !(member instanceof BlockTree block) || !block.isStatic());
            if (member instanceof VariableTree field) {
                fields += field.getModifiers().getFlags().contains(Modifier.STATIC) ? 0 : 1;
                field(field);
            }
        }
        C.due("11. fields of " + tree.getSimpleName(), Math.max(MOST_FIELDS, fields), MOST_FIELDS);
        return super.visitClass(tree, none);
    }

    private void field(VariableTree field) {
        if (!field.getModifiers().getFlags().contains(Modifier.STATIC)) {
            return;
        }
        TypeMirror type = type(field);
        boolean isRow = type instanceof ArrayType row && row.getComponentType().getKind().isPrimitive();
        rule("5. a static field is final", field, field.getModifiers().getFlags().contains(Modifier.FINAL));
        rule("5. a static field is a constant, or a row that is written out", field, type.getKind().isPrimitive()
            || type.toString().equals("java.lang.String")
            || isRow && field.getInitializer() instanceof NewArrayTree row && row.getInitializers() != null);
    }

    // ---- 3: types

    private static boolean isAllowed(TypeMirror type) {
        if (type.getKind().isPrimitive() || type.getKind() == TypeKind.VOID || type.getKind() == TypeKind.TYPEVAR) {
            return true;
        }
        if (type instanceof ArrayType rows) {
            TypeMirror of = rows.getComponentType();
            boolean isRowOfNumbers = of instanceof ArrayType row && row.getComponentType().getKind().isPrimitive();
            return of.getKind().isPrimitive() || isRowOfNumbers || of instanceof DeclaredType && isAllowed(of);
        }
        return type instanceof DeclaredType declared && declared.asElement() instanceof TypeElement named
            && (isOwn(named) || LIBRARY_TYPES.contains(named.getQualifiedName().toString()))
            && declared.getTypeArguments().stream().allMatch(LanguageTest::isAllowed);
    }

    @Override
    public Void visitVariable(VariableTree tree, Void none) {
        Element element = source.trees.getElement(getCurrentPath());
        rule("3. the type of " + tree.getName(), tree, isAllowed(element.asType()));
        return super.visitVariable(tree, none);
    }

    @Override
    public Void visitTypeCast(TypeCastTree tree, Void none) {
        rule("6. a cast of numbers", tree, type(tree.getType()).getKind().isPrimitive());
        return super.visitTypeCast(tree, none);
    }

    // ---- 4: the library; 8: calls

    private String here() {
        TreePath path = getCurrentPath();
        while (path != null && !(path.getLeaf() instanceof MethodTree) && !(path.getLeaf() instanceof ClassTree)) {
            path = path.getParentPath();
        }
        Element element = source.trees.getElement(path);
        String type = (element instanceof TypeElement ? element : element.getEnclosingElement()).toString();
        return type + "." + (element instanceof TypeElement named ? named.getSimpleName() + "()" : element.toString());
    }

    private void call(ExecutableElement called, Tree at) {
        TypeElement of = (TypeElement) called.getEnclosingElement();
        String name = of + "." + called;
        if (isOwn(of)) {
            calls.computeIfAbsent(here(), key -> new TreeSet<>()).add(name);
            return;
        }
        rule("4. the library: " + name, at, LIBRARY.contains(name) || isOfNumbers(of, called) || isOfRows(of, called)
            || of.toString().startsWith("java.util.") && LISTS.contains(called.toString())
            || of.toString().equals("java.util.List") && called.getSimpleName().contentEquals("of"));
    }

    private static boolean isOfNumbers(TypeElement of, ExecutableElement called) {
        boolean isNumber = Set.of("java.lang.Math", "java.lang.Integer", "java.lang.Long").contains(of.toString());
        return isNumber && called.getModifiers().contains(Modifier.STATIC) && !called.getSimpleName().toString().endsWith("Exact")
            && called.getParameters().stream().allMatch(p -> Set.of("int", "long").contains(p.asType().toString()));
    }

    private static boolean isOfRows(TypeElement of, ExecutableElement called) {
        String name = of + "." + called.getSimpleName();
        return Set.of("java.lang.System.arraycopy", "java.util.Arrays.copyOf", "java.util.Arrays.copyOfRange",
            "java.util.Arrays.fill").contains(name);
    }

    @Override
    public Void visitMethodInvocation(MethodInvocationTree tree, Void none) {
        Element called = element(tree);
        boolean isCopyOfARow = tree.getMethodSelect().toString().endsWith(".clone") && called.getEnclosingElement() == null;
        if (called instanceof ExecutableElement method && !isCopyOfARow) {
            call(method, tree);
        }
        return super.visitMethodInvocation(tree, none);
    }

    @Override
    public Void visitNewClass(NewClassTree tree, Void none) {
        rule("2. no anonymous class", tree, tree.getClassBody() == null);
        if (element(tree) instanceof ExecutableElement made) {
            call(made, tree);
        }
        return super.visitNewClass(tree, none);
    }

    @Override
    public Void visitLiteral(LiteralTree tree, Void none) {
        if (tree.getValue() instanceof String text) {
            rule("4. signs of a text are 1 to 127", tree, text.chars().allMatch(c -> c > 0 && c < 128));
        }
        return super.visitLiteral(tree, none);
    }

    // ---- 5: rows that never change

    private void changed(ExpressionTree target) {
        if (target instanceof ArrayAccessTree place) {
            Element element = element(place.getExpression());
            rule("5. a static row is never changed", target, element == null || element.getKind() != ElementKind.FIELD
                || !element.getModifiers().contains(Modifier.STATIC));
        }
    }

    /** Only its elements and its length are asked for: else another name for it could change it. */
    private void named(Tree tree) {
        Element element = source.trees.getElement(getCurrentPath());
        boolean isStaticRow = element != null && element.getKind() == ElementKind.FIELD
            && element.getModifiers().contains(Modifier.STATIC) && element.asType() instanceof ArrayType;
        Tree around = getCurrentPath().getParentPath().getLeaf();
        rule("5. a static row has no other name", tree, !isStaticRow || around instanceof ArrayAccessTree
            || around instanceof MemberSelectTree select && select.getIdentifier().contentEquals("length"));
    }

    @Override
    public Void visitIdentifier(IdentifierTree tree, Void none) {
        named(tree);
        return super.visitIdentifier(tree, none);
    }

    @Override
    public Void visitMemberSelect(MemberSelectTree tree, Void none) {
        named(tree);
        return super.visitMemberSelect(tree, none);
    }

    @Override
    public Void visitAssignment(AssignmentTree tree, Void none) {
        changed(tree.getVariable());
        return super.visitAssignment(tree, none);
    }

    @Override
    public Void visitCompoundAssignment(CompoundAssignmentTree tree, Void none) {
        changed(tree.getVariable());
        rule("10. texts are not joined by +", tree, !isText(type(tree.getVariable())));
        rule("7. a divisor is a constant that is not 0", tree, tree.getKind() != Tree.Kind.DIVIDE_ASSIGNMENT
            && tree.getKind() != Tree.Kind.REMAINDER_ASSIGNMENT || isConstant(tree.getExpression()));
        return super.visitCompoundAssignment(tree, none);
    }

    @Override
    public Void visitUnary(UnaryTree tree, Void none) {
        if (tree.getKind() != Tree.Kind.UNARY_MINUS && tree.getKind() != Tree.Kind.LOGICAL_COMPLEMENT) {
            changed(tree.getExpression());
        }
        return super.visitUnary(tree, none);
    }

    // ---- 6, 9, 10: statements

    private Void not(String rule, Tree tree) {
        rule(rule, tree, false);
        return null;
    }

    @Override
    public Void visitLambdaExpression(LambdaExpressionTree tree, Void none) {
        return not("2. no lambda", tree);
    }

    @Override
    public Void visitMemberReference(MemberReferenceTree tree, Void none) {
        return not("2. no method reference", tree);
    }

    @Override
    public Void visitThrow(ThrowTree tree, Void none) {
        return not("6. no throw", tree);
    }

    @Override
    public Void visitTry(TryTree tree, Void none) {
        return not("6. no try", tree);
    }

    @Override
    public Void visitCatch(CatchTree tree, Void none) {
        return not("6. no catch", tree);
    }

    @Override
    public Void visitSynchronized(SynchronizedTree tree, Void none) {
        return not("6. no synchronized", tree);
    }

    @Override
    public Void visitAssert(AssertTree tree, Void none) {
        return not("6. no assert", tree);
    }

    @Override
    public Void visitBinary(BinaryTree tree, Void none) {
        TypeMirror left = type(tree.getLeftOperand());
        TypeMirror right = type(tree.getRightOperand());
        switch (tree.getKind()) {
            case PLUS -> rule("10. texts are not joined by +", tree, !isText(left) && !isText(right));
            case EQUAL_TO, NOT_EQUAL_TO -> rule("6. no == between texts", tree, !isText(left) || !isText(right));
            case DIVIDE, REMAINDER -> rule("7. a divisor is a constant that is not 0", tree, isConstant(tree.getRightOperand()));
            default -> { }
        }
        return super.visitBinary(tree, none);
    }

    /** The program has no other divisors, so none has to be looked at before it divides. */
    private boolean isConstant(ExpressionTree divisor) {
        Object value = divisor instanceof LiteralTree literal ? literal.getValue()
            : element(divisor) instanceof VariableElement named ? named.getConstantValue() : null;
        return value instanceof Integer number && number != 0;
    }

    @Override
    public Void visitSwitch(SwitchTree tree, Void none) {
        rule("10. a switch on numbers", tree, type(tree.getExpression()).getKind().isPrimitive());
        return super.visitSwitch(tree, none);
    }

    @Override
    public Void visitSwitchExpression(SwitchExpressionTree tree, Void none) {
        rule("10. a switch on numbers", tree, type(tree.getExpression()).getKind().isPrimitive());
        return super.visitSwitchExpression(tree, none);
    }

    @Override
    public Void visitForLoop(ForLoopTree tree, Void none) {
        rule("9. a loop has an end", tree, tree.getCondition() != null && !tree.getUpdate().isEmpty());
        return super.visitForLoop(tree, none);
    }

    @Override
    public Void visitWhileLoop(WhileLoopTree tree, Void none) {
        rule("9. a loop has an end", tree, tree.getCondition().toString().matches("\\(.* < .*\\)"));
        return super.visitWhileLoop(tree, none);
    }

    @Override
    public Void visitDoWhileLoop(DoWhileLoopTree tree, Void none) {
        rule("9. a loop has an end", tree, tree.getCondition().toString().matches("\\(.* < .*\\)"));
        return super.visitDoWhileLoop(tree, none);
    }

    // ---- 8, 11: methods

    @Override
    public Void visitMethod(MethodTree tree, Void none) {
        if (source.end(tree) < 0) {
            return null;
        }
        own.add(here());
        rule("11. parameters of " + tree.getName(), tree, tree.getParameters().size() <= MOST_PARAMETERS);
        rule("11. lines of " + tree.getName(), tree, source.lines(tree) <= MOST_LINES + 2);
        rule("6. " + tree.getName() + " throws nothing", tree, tree.getThrows().isEmpty());
        rule("6. " + tree.getName() + " is not synchronized", tree,
            !tree.getModifiers().getFlags().contains(Modifier.SYNCHRONIZED));
        if (tree.getReturnType() != null) {
            rule("3. what " + tree.getName() + " answers", tree, isAllowed(type(tree.getReturnType())));
        }
        return super.visitMethod(tree, none);
    }

    private void depth() {
        C.sentence("11. calls that are no recursion go at most eight deep; the program has no recursion");
        for (String method : own) {
            int deep = deep(method, new ArrayList<>());
            C.due("how deep " + method + " goes", Math.max(MOST_DEEP, deep), MOST_DEEP);
        }
    }

    private int deep(String method, List<String> open) {
        C.holds("8. " + method + " calls itself: " + open, !open.contains(method));
        int most = 0;
        if (!open.contains(method)) {
            open.add(method);
            for (String called : calls.getOrDefault(method, Set.of())) {
                most = Math.max(most, deep(called, open));
            }
            open.remove(open.size() - 1);
        }
        return most + 1;
    }
}
