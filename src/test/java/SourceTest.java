import com.sun.source.tree.AnnotationTree;
import com.sun.source.tree.AssertTree;
import com.sun.source.tree.AssignmentTree;
import com.sun.source.tree.BinaryTree;
import com.sun.source.tree.BlockTree;
import com.sun.source.tree.ClassTree;
import com.sun.source.tree.CompilationUnitTree;
import com.sun.source.tree.CompoundAssignmentTree;
import com.sun.source.tree.DoWhileLoopTree;
import com.sun.source.tree.ForLoopTree;
import com.sun.source.tree.ImportTree;
import com.sun.source.tree.InstanceOfTree;
import com.sun.source.tree.LambdaExpressionTree;
import com.sun.source.tree.LiteralTree;
import com.sun.source.tree.MemberReferenceTree;
import com.sun.source.tree.MethodInvocationTree;
import com.sun.source.tree.MethodTree;
import com.sun.source.tree.NewArrayTree;
import com.sun.source.tree.NewClassTree;
import com.sun.source.tree.SynchronizedTree;
import com.sun.source.tree.ThrowTree;
import com.sun.source.tree.Tree;
import com.sun.source.tree.TryTree;
import com.sun.source.tree.TypeCastTree;
import com.sun.source.tree.UnaryTree;
import com.sun.source.tree.VariableTree;
import com.sun.source.tree.WhileLoopTree;
import com.sun.source.util.JavacTask;
import com.sun.source.util.SourcePositions;
import com.sun.source.util.TreePath;
import com.sun.source.util.TreePathScanner;
import com.sun.source.util.Trees;
import java.io.File;
import java.io.IOException;
import java.util.ArrayList;
import java.util.HashMap;
import java.util.HashSet;
import java.util.LinkedHashMap;
import java.util.LinkedHashSet;
import java.util.List;
import java.util.Map;
import java.util.Set;
import java.util.regex.Matcher;
import java.util.regex.Pattern;
import javax.lang.model.element.Element;
import javax.lang.model.element.ElementKind;
import javax.lang.model.element.ExecutableElement;
import javax.lang.model.element.Modifier;
import javax.lang.model.element.NestingKind;
import javax.lang.model.element.TypeElement;
import javax.lang.model.element.VariableElement;
import javax.lang.model.type.ArrayType;
import javax.lang.model.type.TypeKind;
import javax.lang.model.type.TypeMirror;
import javax.tools.JavaCompiler;
import javax.tools.StandardJavaFileManager;
import javax.tools.ToolProvider;

/** The rules of LANGUAGE.md that can be seen in the source, as the compiler itself reads it. */
public final class SourceTest extends TreePathScanner<Void, Void> {
    private static final String CLASS = "StepsBeyond";
    private static final int MOST_LINES = 60, MOST_PARAMETERS = 7, MOST_DEEP = 8, MOST_CLASSES = 12, MOST_FIELDS = 20;

    /** Of rule 4's list what the program may call; the like of Math's over int and long that it uses. */
    private static final Set<String> LIBRARY = Set.of(
        "java.lang.String.length", "java.lang.String.charAt", "java.lang.String.isEmpty", "java.lang.String.equals",
        "java.lang.String.substring", "java.lang.String.toCharArray", "java.lang.Math.abs", "java.lang.Math.max",
        "java.lang.Math.min", "java.lang.Math.floorDiv", "java.lang.Math.floorMod", "java.lang.Integer.compare",
        "java.lang.Integer.bitCount", "java.lang.Long.compare", "java.lang.System.arraycopy", "java.util.Arrays.copyOf",
        "java.util.Arrays.copyOfRange", "java.util.Arrays.fill");

    private static final String INTERFACE = """

        ---- houses, towns: house hut near far town burn\s
        ---- the law: feed text force\s
        ---- shapes: shape loaf shapeTold within size both laid\s
        ---- steps, people, wells: ravine steps person moves personTold well may wells who meet\s
        ---- towns joined: shed bridge count image back\s
        ---- the host: sheet cell copy houses taken\s
        """;

    private final Trees trees;
    private final CompilationUnitTree unit;
    /** Of each own method those that it calls. */
    private final Map<ExecutableElement, Set<ExecutableElement>> calls = new LinkedHashMap<>();
    private final Map<String, Integer> fields = new HashMap<>();
    private final Set<String> classes = new HashSet<>();

    private SourceTest(Trees trees, CompilationUnitTree unit) {
        this.trees = trees;
        this.unit = unit;
    }

    public static void main(String[] args) throws IOException {
        JavaCompiler compiler = ToolProvider.getSystemJavaCompiler();
        try (StandardJavaFileManager files = compiler.getStandardFileManager(null, null, null)) {
            File source = new File("src/main/java/" + CLASS + ".java");
            List<String> options = List.of("--release", "17", "-proc:none");
            JavacTask task = (JavacTask) compiler.getTask(null, files, null, options, null,
                files.getJavaFileObjects(source));
            CompilationUnitTree unit = task.parse().iterator().next();
            task.analyze();
            SourceTest test = new SourceTest(Trees.instance(task), unit);
            test.file();
            test.scan(unit, null);
            test.sizes();
            test.recursion();
            test.depth();
        }
        Due.end();
    }

    private void rule(int number, String what, Tree where, boolean holds) {
        SourcePositions positions = trees.getSourcePositions();
        long line = where == null ? 0 : unit.getLineMap().getLineNumber(positions.getStartPosition(unit, where));
        Due.holds("rule " + number + ", line " + line + ": " + what, holds);
    }

    private void never(int number, String what, Tree where) {
        rule(number, what, where, false);
    }

    private Element elementOf(Tree tree) {
        return trees.getElement(new TreePath(getCurrentPath(), tree));
    }

    private TypeMirror typeOf(Tree tree) {
        return trees.getTypeMirror(new TreePath(getCurrentPath(), tree));
    }

    // ---- the file and its classes

    private void file() throws IOException {
        rule(1, "no package line", unit.getPackage(), unit.getPackageName() == null);
        rule(1, "one class outside all others", null, unit.getTypeDecls().size() == 1);
        for (ImportTree one : unit.getImports()) {
            rule(4, "" + one, one, !one.isStatic() && one.getQualifiedIdentifier().toString().equals("java.util.Arrays"));
        }
        rule(3, "signs 1 to 127", null, unit.getSourceFile().getCharContent(true).chars().allMatch(c -> c > 0 && c < 128));
        sections(unit.getSourceFile().getCharContent(true).toString());
    }

    /** The calls stand in the document's order, ahead of them what the interface says. */
    private void sections(String source) {
        Matcher line = Pattern.compile("(?m)^ {4}(?:// (---- [^\n]*)|public int (\\w+)\\(.*)$").matcher(source);
        StringBuilder found = new StringBuilder();
        while (line.find()) {
            found.append(line.group(1) == null ? line.group(2) + " " : "\n" + line.group(1) + ": ");
        }
        Due.holds("the interface has " + found, found.toString().startsWith(INTERFACE));
    }

    @Override
    public Void visitClass(ClassTree tree, Void none) {
        TypeElement type = (TypeElement) trees.getElement(getCurrentPath());
        String name = type.getQualifiedName().toString();
        classes.add(name);
        boolean isOuter = name.equals(CLASS);
        boolean isNested = type.getNestingKind() == NestingKind.MEMBER && type.getModifiers().contains(Modifier.STATIC);
        rule(2, name + " is the class or a static one inside it", tree, isOuter || isNested);
        rule(1, name + " is private or package-visible", tree,
            isOuter || !type.getModifiers().contains(Modifier.PUBLIC) && !type.getModifiers().contains(Modifier.PROTECTED));
        boolean isPlain = type.getKind() == ElementKind.CLASS && type.getInterfaces().isEmpty()
            && type.getSuperclass().toString().equals("java.lang.Object");
        rule(2, name + " is a class with no other above it", tree, isPlain);
        return super.visitClass(tree, none);
    }

    @Override
    public Void visitAnnotation(AnnotationTree tree, Void none) {
        never(4, "an annotation", tree);
        return null;
    }

    @Override
    public Void visitBlock(BlockTree tree, Void none) {
        boolean isInitialiser = getCurrentPath().getParentPath().getLeaf() instanceof ClassTree;
        rule(5, "no initialiser block", tree, !isInitialiser);
        return super.visitBlock(tree, none);
    }

    // ---- methods

    @Override
    public Void visitMethod(MethodTree tree, Void none) {
        ExecutableElement method = (ExecutableElement) trees.getElement(getCurrentPath());
        calls.computeIfAbsent(method, m -> new LinkedHashSet<>());
        String name = method.getEnclosingElement().getSimpleName() + "." + method;
        rule(11, name + " takes few parameters", tree, tree.getParameters().size() <= MOST_PARAMETERS);
        rule(11, name + " is short", tree, linesOf(tree) <= MOST_LINES);
        rule(6, name + " throws nothing", tree, tree.getThrows().isEmpty());
        boolean isCommon = Set.of("equals", "hashCode", "toString", "finalize").contains(method.getSimpleName().toString());
        rule(6, name + " is none of Object's", tree, !isCommon);
        if (tree.getReturnType() != null) {
            rule(3, name + " answers an allowed type", tree, isAllowed(method.getReturnType(), true));
        }
        return super.visitMethod(tree, none);
    }

    private long linesOf(Tree tree) {
        if (trees.getSourcePositions().getEndPosition(unit, tree) < 0) {
            return 0;
        }
        return unit.getLineMap().getLineNumber(trees.getSourcePositions().getEndPosition(unit, tree))
            - unit.getLineMap().getLineNumber(trees.getSourcePositions().getStartPosition(unit, tree)) + 1;
    }

    private ExecutableElement methodAround() {
        for (TreePath path = getCurrentPath(); path != null; path = path.getParentPath()) {
            if (path.getLeaf() instanceof MethodTree) {
                return (ExecutableElement) trees.getElement(path);
            }
        }
        return null;
    }

    private boolean isOwn(Element element) {
        Element around = element;
        while (around != null && !(around instanceof TypeElement type && type.getNestingKind() == NestingKind.TOP_LEVEL)) {
            around = around.getEnclosingElement();
        }
        return around != null && around.getSimpleName().contentEquals(CLASS);
    }

    @Override
    public Void visitMethodInvocation(MethodInvocationTree tree, Void none) {
        ExecutableElement called = (ExecutableElement) elementOf(tree.getMethodSelect());
        if (isOwn(called)) {
            note(called);
        } else if (!called.getSimpleName().contentEquals("<init>")) {
            // what each constructor calls unseen, Object's own, is none of the library's calls
            String name = called.getEnclosingElement() + "." + called.getSimpleName();
            rule(4, name + " is of the list", tree, LIBRARY.contains(name));
        }
        return super.visitMethodInvocation(tree, none);
    }

    private void note(ExecutableElement called) {
        ExecutableElement calling = methodAround();
        if (calling != null) {
            calls.computeIfAbsent(calling, m -> new LinkedHashSet<>()).add(called);
        }
    }

    // ---- objects and arrays

    @Override
    public Void visitNewClass(NewClassTree tree, Void none) {
        ExecutableElement made = (ExecutableElement) trees.getElement(getCurrentPath());
        rule(2, "no anonymous class", tree, tree.getClassBody() == null);
        rule(4, "objects of own classes alone", tree, isOwn(made));
        rule(12, "objects come with the one that has them", tree, isMadeWithItsObject());
        note(made);
        return super.visitNewClass(tree, none);
    }

    @Override
    public Void visitNewArray(NewArrayTree tree, Void none) {
        rule(12, "rows are made in constructors", tree, isMadeWithItsObject());
        for (Tree length : tree.getDimensions()) {
            Object told = constantOf(length);
            rule(7, "a length that is told", tree, told instanceof Integer n && n >= 0);
        }
        return super.visitNewArray(tree, none);
    }

    private boolean isMadeWithItsObject() {
        ExecutableElement around = methodAround();
        return around == null || around.getKind() == ElementKind.CONSTRUCTOR;
    }

    /** What a constant, or a product of such, comes to; null, if it is neither. */
    private Object constantOf(Tree tree) {
        if (tree instanceof LiteralTree literal) {
            return literal.getValue();
        }
        if (tree.getKind() == Tree.Kind.MULTIPLY) {
            Object left = constantOf(((BinaryTree) tree).getLeftOperand());
            Object right = constantOf(((BinaryTree) tree).getRightOperand());
            return left instanceof Integer a && right instanceof Integer b ? (Object) (a * b) : null;
        }
        Element element = elementOf(tree);
        return element instanceof VariableElement variable ? variable.getConstantValue() : null;
    }

    // ---- variables and their types

    @Override
    public Void visitVariable(VariableTree tree, Void none) {
        VariableElement variable = (VariableElement) trees.getElement(getCurrentPath());
        rule(3, tree.getName() + " is of an allowed type", tree, isAllowed(variable.asType(), false));
        if (variable.getKind() == ElementKind.FIELD) {
            field(tree, variable);
        }
        return super.visitVariable(tree, none);
    }

    private void field(VariableTree tree, VariableElement field) {
        if (!field.getModifiers().contains(Modifier.STATIC)) {
            fields.merge(field.getEnclosingElement().toString(), 1, Integer::sum);
            return;
        }
        rule(5, field + " is final", tree, field.getModifiers().contains(Modifier.FINAL));
        boolean isWrittenOut = tree.getInitializer() instanceof NewArrayTree row && row.getInitializers() != null
            && field.asType() instanceof ArrayType;
        rule(5, field + " is a constant, or a row written out", tree, field.getConstantValue() != null || isWrittenOut);
    }

    private boolean isAllowed(TypeMirror type, boolean orVoid) {
        if (type instanceof ArrayType row) {
            TypeMirror of = row.getComponentType();
            boolean isRowOfNumbers = of instanceof ArrayType inner && inner.getComponentType().getKind().isPrimitive();
            return isRowOfNumbers || !(of instanceof ArrayType) && isAllowed(of, false);
        }
        boolean isText = type.toString().equals("java.lang.String") || type.toString().equals("java.lang.StringBuilder");
        boolean isOwnClass = type.toString().equals(CLASS) || type.toString().startsWith(CLASS + ".");
        return type.getKind().isPrimitive() || isText || isOwnClass || orVoid && type.getKind() == TypeKind.VOID;
    }

    // ---- what is assigned, reckoned, compared

    @Override
    public Void visitAssignment(AssignmentTree tree, Void none) {
        staysAsItIs(tree.getVariable(), tree);
        return super.visitAssignment(tree, none);
    }

    @Override
    public Void visitCompoundAssignment(CompoundAssignmentTree tree, Void none) {
        staysAsItIs(tree.getVariable(), tree);
        boolean divides = tree.getKind() == Tree.Kind.DIVIDE_ASSIGNMENT || tree.getKind() == Tree.Kind.REMAINDER_ASSIGNMENT;
        rule(7, "a divisor that is told, and not 0", tree, !divides || isOtherThanZero(tree.getExpression()));
        return super.visitCompoundAssignment(tree, none);
    }

    @Override
    public Void visitUnary(UnaryTree tree, Void none) {
        Tree.Kind kind = tree.getKind();
        if (kind != Tree.Kind.UNARY_MINUS && kind != Tree.Kind.BITWISE_COMPLEMENT && kind != Tree.Kind.LOGICAL_COMPLEMENT) {
            staysAsItIs(tree.getExpression(), tree);
        }
        return super.visitUnary(tree, none);
    }

    /** Rule 5: a constant row is never written to. */
    private void staysAsItIs(Tree variable, Tree where) {
        Tree row = variable;
        while (row instanceof com.sun.source.tree.ArrayAccessTree access) {
            row = access.getExpression();
        }
        Element element = elementOf(row);
        rule(5, "static rows are never changed", where,
            element == null || !element.getModifiers().contains(Modifier.STATIC));
    }

    @Override
    public Void visitBinary(BinaryTree tree, Void none) {
        boolean divides = tree.getKind() == Tree.Kind.DIVIDE || tree.getKind() == Tree.Kind.REMAINDER;
        rule(7, "a divisor that is told, and not 0", tree, !divides || isOtherThanZero(tree.getRightOperand()));
        TypeMirror left = typeOf(tree.getLeftOperand());
        TypeMirror right = typeOf(tree.getRightOperand());
        rule(10, "texts are neither joined nor compared by a sign", tree, left.getKind().isPrimitive()
            && right.getKind().isPrimitive());
        return super.visitBinary(tree, none);
    }

    private boolean isOtherThanZero(Tree divisor) {
        return constantOf(divisor) instanceof Integer n && n != 0;
    }

    @Override
    public Void visitTypeCast(TypeCastTree tree, Void none) {
        rule(6, "casts of numbers alone", tree, typeOf(tree.getType()).getKind().isPrimitive());
        return super.visitTypeCast(tree, none);
    }

    // ---- loops

    @Override
    public Void visitForLoop(ForLoopTree tree, Void none) {
        rule(9, "a for that has an end", tree, tree.getCondition() != null && countsAgainst(tree.getCondition())
            && !tree.getUpdate().isEmpty());
        return super.visitForLoop(tree, none);
    }

    @Override
    public Void visitWhileLoop(WhileLoopTree tree, Void none) {
        rule(9, "a while that has an end", tree, countsAgainst(tree.getCondition()));
        return super.visitWhileLoop(tree, none);
    }

    @Override
    public Void visitDoWhileLoop(DoWhileLoopTree tree, Void none) {
        rule(9, "a do that has an end", tree, countsAgainst(tree.getCondition()));
        return super.visitDoWhileLoop(tree, none);
    }

    /** The condition has a number against a bound, and what stands beside that can only end the loop sooner. */
    private static boolean countsAgainst(Tree condition) {
        if (condition instanceof com.sun.source.tree.ParenthesizedTree in) {
            return countsAgainst(in.getExpression());
        }
        return switch (condition.getKind()) {
            case LESS_THAN, LESS_THAN_EQUAL, GREATER_THAN, GREATER_THAN_EQUAL -> true;
            case CONDITIONAL_AND -> countsAgainst(((BinaryTree) condition).getLeftOperand())
                || countsAgainst(((BinaryTree) condition).getRightOperand());
            default -> false;
        };
    }

    // ---- what there is none of

    @Override
    public Void visitLambdaExpression(LambdaExpressionTree tree, Void none) {
        never(2, "a lambda", tree);
        return null;
    }

    @Override
    public Void visitMemberReference(MemberReferenceTree tree, Void none) {
        never(2, "a method reference", tree);
        return null;
    }

    @Override
    public Void visitThrow(ThrowTree tree, Void none) {
        never(6, "throw", tree);
        return null;
    }

    @Override
    public Void visitTry(TryTree tree, Void none) {
        never(6, "try", tree);
        return null;
    }

    @Override
    public Void visitSynchronized(SynchronizedTree tree, Void none) {
        never(6, "synchronized", tree);
        return null;
    }

    @Override
    public Void visitAssert(AssertTree tree, Void none) {
        never(6, "assert", tree);
        return null;
    }

    @Override
    public Void visitInstanceOf(InstanceOfTree tree, Void none) {
        never(6, "instanceof, though all classes are plain", tree);
        return null;
    }

    // ---- the whole

    private void sizes() {
        rule(11, classes.size() + " classes", null, classes.size() <= MOST_CLASSES);
        fields.forEach((name, many) -> rule(11, many + " fields of " + name, null, many <= MOST_FIELDS));
        rule(4, "calls were found", null, calls.size() > 40);
    }

    private Set<ExecutableElement> reachedFrom(ExecutableElement method) {
        Set<ExecutableElement> reached = new LinkedHashSet<>();
        List<ExecutableElement> open = new ArrayList<>(calls.getOrDefault(method, Set.of()));
        while (!open.isEmpty()) {
            ExecutableElement next = open.remove(open.size() - 1);
            if (reached.add(next)) {
                open.addAll(calls.getOrDefault(next, Set.of()));
            }
        }
        return reached;
    }

    private boolean isRecursive(ExecutableElement method) {
        return reachedFrom(method).contains(method);
    }

    /** Rule 8: what calls itself, over whatever others, is private and carries how deep it is. */
    private void recursion() {
        int recursive = 0;
        for (ExecutableElement method : calls.keySet()) {
            if (isRecursive(method)) {
                recursive++;
                boolean carries = method.getParameters().stream().anyMatch(p -> p.getSimpleName().contentEquals("open"));
                rule(8, method + " is private and carries how many are open", null,
                    carries && method.getModifiers().contains(Modifier.PRIVATE));
            }
        }
        // five are open at most, so each of these methods stands open six times at most
        rule(8, recursive + " methods that call one another", null, recursive * 6 + MOST_DEEP < 300);
    }

    /** Rule 11: methods that call one another count as one level. */
    private void depth() {
        Map<ExecutableElement, Integer> known = new HashMap<>();
        for (ExecutableElement method : calls.keySet()) {
            rule(11, method + " goes " + deepFrom(method, known) + " deep", null, deepFrom(method, known) <= MOST_DEEP);
        }
    }

    private int deepFrom(ExecutableElement method, Map<ExecutableElement, Integer> known) {
        if (known.containsKey(method)) {
            return known.get(method);
        }
        Set<ExecutableElement> likewise = new LinkedHashSet<>(Set.of(method));
        for (ExecutableElement other : reachedFrom(method)) {
            if (reachedFrom(other).contains(method)) {
                likewise.add(other);
            }
        }
        int deepest = 0;
        for (ExecutableElement one : likewise) {
            for (ExecutableElement called : calls.getOrDefault(one, Set.of())) {
                if (!likewise.contains(called)) {
                    deepest = Math.max(deepest, deepFrom(called, known));
                }
            }
        }
        for (ExecutableElement one : likewise) {
            known.put(one, deepest + 1);
        }
        return deepest + 1;
    }
}
