import com.sun.source.tree.AnnotatedTypeTree;
import com.sun.source.tree.AssertTree;
import com.sun.source.tree.BinaryTree;
import com.sun.source.tree.BlockTree;
import com.sun.source.tree.CatchTree;
import com.sun.source.tree.ClassTree;
import com.sun.source.tree.CompilationUnitTree;
import com.sun.source.tree.CompoundAssignmentTree;
import com.sun.source.tree.DoWhileLoopTree;
import com.sun.source.tree.ExpressionTree;
import com.sun.source.tree.ForLoopTree;
import com.sun.source.tree.ImportTree;
import com.sun.source.tree.LambdaExpressionTree;
import com.sun.source.tree.LiteralTree;
import com.sun.source.tree.MemberReferenceTree;
import com.sun.source.tree.MethodInvocationTree;
import com.sun.source.tree.MethodTree;
import com.sun.source.tree.NewArrayTree;
import com.sun.source.tree.NewClassTree;
import com.sun.source.tree.SynchronizedTree;
import com.sun.source.tree.ThrowTree;
import com.sun.source.tree.Tree;
import com.sun.source.tree.TryTree;
import com.sun.source.tree.TypeCastTree;
import com.sun.source.tree.VariableTree;
import com.sun.source.tree.WhileLoopTree;
import com.sun.source.util.JavacTask;
import com.sun.source.util.SourcePositions;
import com.sun.source.util.TreePath;
import com.sun.source.util.TreePathScanner;
import com.sun.source.util.Trees;
import java.io.IOException;
import java.nio.file.Path;
import java.util.HashMap;
import java.util.HashSet;
import java.util.List;
import java.util.Map;
import java.util.Set;
import java.util.TreeSet;
import javax.lang.model.element.Element;
import javax.lang.model.element.ElementKind;
import javax.lang.model.element.ExecutableElement;
import javax.lang.model.element.Modifier;
import javax.lang.model.element.VariableElement;
import javax.lang.model.type.ArrayType;
import javax.lang.model.type.TypeKind;
import javax.lang.model.type.TypeMirror;
import javax.tools.JavaCompiler;
import javax.tools.StandardJavaFileManager;
import javax.tools.ToolProvider;

/**
 * The program keeps to LANGUAGE.md, as far as the compiler's trees can tell. It is stricter where the program needs
 * less than the rules allow: no try, no recursion, no cast to a class, no object made but in constructors.
 */
public final class LanguageTest extends TreePathScanner<Void, Void> {
    private static final int MOST_CLASSES = 12;
    private static final int MOST_FIELDS = 20;
    private static final int MOST_LINES = 60;
    private static final int MOST_PARAMETERS = 7;
    private static final int MOST_DEEP = 8;
    private static final Set<String> LIBRARY_CLASSES = Set.of("String");
    private static final Set<String> LIBRARY_CALLS = Set.of("String.length", "String.charAt", "String.isEmpty",
            "String.equals", "String.substring", "Integer.bitCount", "Math.min", "Math.max", "Math.abs",
            "System.arraycopy");
    private static final Set<String> EXCEPTIONS = Set.of("IllegalStateException", "IllegalArgumentException",
            "IndexOutOfBoundsException", "ArithmeticException", "UnsupportedOperationException",
            "NoSuchElementException", "RuntimeException");
    private static final Set<String> NAMES_OF_OBJECT = Set.of("equals", "hashCode", "toString", "finalize", "clone");
    private static final Set<Tree.Kind> ARITHMETIC = Set.of(Tree.Kind.PLUS, Tree.Kind.MINUS, Tree.Kind.MULTIPLY,
            Tree.Kind.DIVIDE, Tree.Kind.LESS_THAN, Tree.Kind.LESS_THAN_EQUAL, Tree.Kind.GREATER_THAN,
            Tree.Kind.GREATER_THAN_EQUAL, Tree.Kind.EQUAL_TO, Tree.Kind.NOT_EQUAL_TO);
    private static final Set<Tree.Kind> DIVISIONS = Set.of(Tree.Kind.DIVIDE, Tree.Kind.REMAINDER,
            Tree.Kind.DIVIDE_ASSIGNMENT, Tree.Kind.REMAINDER_ASSIGNMENT);

    private final CompilationUnitTree unit;
    private final Trees trees;
    private final SourcePositions positions;
    private final Set<String> ownClasses = new HashSet<>();
    private final Set<String> publicNames = new HashSet<>();
    private final Map<Element, Set<Element>> callsOf = new HashMap<>();
    private ExecutableElement method;
    private int classes;
    private int wrong;

    private LanguageTest(CompilationUnitTree unit, Trees trees) {
        this.unit = unit;
        this.trees = trees;
        positions = trees.getSourcePositions();
    }

    public static void main(String[] arguments) throws IOException {
        JavaCompiler compiler = ToolProvider.getSystemJavaCompiler();
        try (StandardJavaFileManager files = compiler.getStandardFileManager(null, null, null)) {
            JavacTask task = (JavacTask) compiler.getTask(null, files, null, List.of("--release", "17", "-proc:none"),
                    null, files.getJavaFileObjects(Path.of(arguments[0])));
            CompilationUnitTree unit = task.parse().iterator().next();
            task.analyze();
            LanguageTest test = new LanguageTest(unit, Trees.instance(task));
            test.check();
            if (test.wrong != 0) {
                System.exit(1);
            }
        }
    }

    private void check() {
        new OwnNames().scan(unit, null);
        scan(unit, null);
        due(unit.getPackageName() == null, unit, 1, "a package line");
        due(unit.getTypeDecls().size() == 1, unit, 1, "more than one class outside");
        due(classes <= MOST_CLASSES, unit, 11, "too many classes: " + classes);
        int deepest = 0;
        for (Element one : callsOf.keySet()) {
            deepest = Math.max(deepest, depthOf(one, new HashSet<>()));
        }
        due(deepest <= MOST_DEEP, unit, 11, "calls are " + deepest + " deep");
        System.out.println("LanguageTest: " + classes + " classes, " + callsOf.size() + " methods, calls " + deepest
                + " deep, " + wrong + " wrong");
    }

    private final class OwnNames extends TreePathScanner<Void, Void> {
        @Override
        public Void visitClass(ClassTree tree, Void nothing) {
            ownClasses.add(tree.getSimpleName().toString());
            return super.visitClass(tree, nothing);
        }

        @Override
        public Void visitMethod(MethodTree tree, Void nothing) {
            if (tree.getReturnType() != null && isPublic(tree)) {
                publicNames.add(tree.getName().toString());
            }
            return super.visitMethod(tree, nothing);
        }
    }

    private static boolean isPublic(MethodTree tree) {
        return tree.getModifiers().getFlags().contains(Modifier.PUBLIC);
    }

    private void due(boolean holds, Tree tree, int rule, String what) {
        if (!holds) {
            wrong++;
            long line = unit.getLineMap().getLineNumber(positions.getStartPosition(unit, tree));
            System.out.println("wrong: line " + line + ", against rule " + rule + ": " + what);
        }
    }

    /** Returns how many calls stand open at once below a method, with its own, or a great number if it has no end. */
    private int depthOf(Element one, Set<Element> above) {
        if (!above.add(one)) {
            return 1000;
        }
        int deepest = 0;
        for (Element called : callsOf.getOrDefault(one, Set.of())) {
            deepest = Math.max(deepest, depthOf(called, above));
        }
        above.remove(one);
        return deepest + 1;
    }

    private Element elementOf(Tree tree) {
        return trees.getElement(new TreePath(getCurrentPath(), tree));
    }

    private TypeMirror typeOf(Tree tree) {
        return trees.getTypeMirror(new TreePath(getCurrentPath(), tree));
    }

    private static String simpleName(TypeMirror type) {
        String name = type.toString();
        return name.substring(name.lastIndexOf('.') + 1);
    }

    private boolean isOwn(Element element) {
        Element owner = element;
        while (owner.getEnclosingElement() != null && owner.getEnclosingElement().getKind() != ElementKind.PACKAGE) {
            owner = owner.getEnclosingElement();
        }
        return ownClasses.contains(owner.getSimpleName().toString());
    }

    private static boolean isFraction(TypeMirror type) {
        return type.getKind() == TypeKind.DOUBLE || type.getKind() == TypeKind.FLOAT;
    }

    // ---- rules 1, 2 and 5: classes and fields

    @Override
    public Void visitImport(ImportTree tree, Void nothing) {
        String name = tree.getQualifiedIdentifier().toString();
        due(name.equals("java.util.NoSuchElementException"), tree, 4, "import " + name);
        return super.visitImport(tree, nothing);
    }

    @Override
    public Void visitClass(ClassTree tree, Void nothing) {
        classes++;
        Tree around = getCurrentPath().getParentPath().getLeaf();
        boolean isOutside = around.getKind() == Tree.Kind.COMPILATION_UNIT;
        Set<Modifier> flags = tree.getModifiers().getFlags();
        due(isOutside || around instanceof ClassTree, tree, 2, "a class inside a method");
        due(isOutside || flags.contains(Modifier.STATIC), tree, 1, "a class inside that is not static");
        due(isOutside || !flags.contains(Modifier.PUBLIC) && !flags.contains(Modifier.PROTECTED), tree, 1,
                "a class inside that can be seen");
        due(tree.getKind() == Tree.Kind.CLASS && tree.getExtendsClause() == null, tree, 2, "more than a plain class");
        int fields = 0;
        for (Tree member : tree.getMembers()) {
            due(member.getKind() != Tree.Kind.BLOCK || !((BlockTree) member).isStatic(), member, 5, "a static block");
            if (member instanceof VariableTree field) {
                fields += field.getModifiers().getFlags().contains(Modifier.STATIC) ? 0 : 1;
                checkStatic(field);
            }
        }
        due(fields <= MOST_FIELDS, tree, 11, "too many fields: " + fields);
        return super.visitClass(tree, nothing);
    }

    private void checkStatic(VariableTree field) {
        Set<Modifier> flags = field.getModifiers().getFlags();
        if (flags.contains(Modifier.STATIC)) {
            VariableElement element = (VariableElement) elementOf(field);
            due(flags.contains(Modifier.FINAL), field, 5, "a static field that is not final");
            due(element.getConstantValue() != null, field, 5, "a static field that is no constant");
        }
    }

    // ---- rule 3: types

    @Override
    public Void visitVariable(VariableTree tree, Void nothing) {
        checkType(tree, typeOf(tree));
        return super.visitVariable(tree, nothing);
    }

    private void checkType(Tree tree, TypeMirror type) {
        TypeMirror inner = type;
        int dimensions = 0;
        while (inner.getKind() == TypeKind.ARRAY) {
            inner = ((ArrayType) inner).getComponentType();
            dimensions++;
        }
        boolean isNumber = inner.getKind().isPrimitive();
        String name = simpleName(inner);
        boolean isKnown = isNumber || ownClasses.contains(name) || LIBRARY_CLASSES.contains(name);
        due(isKnown, tree, 3, "the type " + type);
        due(dimensions <= (isNumber ? 2 : 1), tree, 3, "too many dimensions: " + type);
    }

    @Override
    public Void visitLiteral(LiteralTree tree, Void nothing) {
        if (tree.getValue() instanceof String text) {
            due(text.chars().allMatch(sign -> sign >= 1 && sign <= 127), tree, 4, "a sign of a text: " + text);
        }
        return super.visitLiteral(tree, nothing);
    }

    @Override
    public Void visitBinary(BinaryTree tree, Void nothing) {
        TypeMirror left = typeOf(tree.getLeftOperand());
        TypeMirror right = typeOf(tree.getRightOperand());
        boolean isText = simpleName(left).equals("String") || simpleName(right).equals("String");
        due(!isText, tree, 10, "an operator on texts");
        boolean isOnFraction = isFraction(left) || isFraction(right);
        due(!isOnFraction || ARITHMETIC.contains(tree.getKind()), tree, 3, "on doubles or floats: " + tree.getKind());
        checkDivisor(tree, tree.getRightOperand(), isOnFraction);
        return super.visitBinary(tree, nothing);
    }

    @Override
    public Void visitCompoundAssignment(CompoundAssignmentTree tree, Void nothing) {
        due(!simpleName(typeOf(tree.getVariable())).equals("String"), tree, 10, "an operator on texts");
        checkDivisor(tree, tree.getExpression(), isFraction(typeOf(tree.getVariable())));
        return super.visitCompoundAssignment(tree, nothing);
    }

    // ---- rule 7: nothing throws by itself

    /** A divisor of whole numbers is a constant other than 0. */
    private void checkDivisor(ExpressionTree tree, ExpressionTree divisor, boolean isOnFraction) {
        if (DIVISIONS.contains(tree.getKind()) && !isOnFraction) {
            due(constantOf(divisor) instanceof Integer number && number != 0, divisor, 7, "the divisor " + divisor);
        }
    }

    private Object constantOf(ExpressionTree tree) {
        if (tree instanceof LiteralTree literal) {
            return literal.getValue();
        }
        return elementOf(tree) instanceof VariableElement variable ? variable.getConstantValue() : null;
    }

    @Override
    public Void visitTypeCast(TypeCastTree tree, Void nothing) {
        due(typeOf(tree.getType()).getKind().isPrimitive(), tree, 7, "a cast to a class");
        return super.visitTypeCast(tree, nothing);
    }

    @Override
    public Void visitNewArray(NewArrayTree tree, Void nothing) {
        for (ExpressionTree length : tree.getDimensions()) {
            due(constantOf(length) instanceof Integer number && number >= 0, tree, 7, "the length " + length);
        }
        due(isMakingAllowed(), tree, 12, "an array made outside of constructors");
        return super.visitNewArray(tree, nothing);
    }

    // ---- rules 2, 4, 8 and 12: calls and objects

    @Override
    public Void visitLambdaExpression(LambdaExpressionTree tree, Void nothing) {
        due(false, tree, 2, "a lambda");
        return super.visitLambdaExpression(tree, nothing);
    }

    @Override
    public Void visitMemberReference(MemberReferenceTree tree, Void nothing) {
        due(false, tree, 2, "a method reference");
        return super.visitMemberReference(tree, nothing);
    }

    @Override
    public Void visitAnnotatedType(AnnotatedTypeTree tree, Void nothing) {
        due(false, tree, 3, "an annotated type");
        return super.visitAnnotatedType(tree, nothing);
    }

    @Override
    public Void visitMethodInvocation(MethodInvocationTree tree, Void nothing) {
        Element called = elementOf(tree.getMethodSelect());
        if (isOwn(called)) {
            noteCall(called);
        } else if (called.getKind() != ElementKind.CONSTRUCTOR) {
            String name = called.getEnclosingElement().getSimpleName() + "." + called.getSimpleName();
            due(LIBRARY_CALLS.contains(name), tree, 4, "a call of " + name);
        }
        return super.visitMethodInvocation(tree, nothing);
    }

    private void noteCall(Element called) {
        if (method != null) {
            callsOf.get(method).add(called);
        }
    }

    @Override
    public Void visitNewClass(NewClassTree tree, Void nothing) {
        String name = simpleName(typeOf(tree));
        boolean isThrown = getCurrentPath().getParentPath().getLeaf() instanceof ThrowTree;
        due(tree.getClassBody() == null, tree, 2, "a class without a name");
        due(isThrown || ownClasses.contains(name), tree, 4, "a new " + name);
        due(isThrown || isMakingAllowed(), tree, 12, "a new " + name + " outside of constructors");
        Element constructor = elementOf(tree);
        if (isOwn(constructor)) {
            noteCall(constructor);
        }
        return super.visitNewClass(tree, nothing);
    }

    /** Initialisers of fields are a part of constructors. */
    private boolean isMakingAllowed() {
        return method == null || method.getKind() == ElementKind.CONSTRUCTOR;
    }

    // ---- rule 6: exceptions

    @Override
    public Void visitThrow(ThrowTree tree, Void nothing) {
        boolean isNew = tree.getExpression() instanceof NewClassTree;
        due(isNew, tree, 6, "a throw of what is not new");
        due(method != null && method.getKind() == ElementKind.METHOD, tree, 6, "a throw in a constructor");
        if (isNew) {
            NewClassTree made = (NewClassTree) tree.getExpression();
            due(EXCEPTIONS.contains(simpleName(typeOf(made))), tree, 6, "a throw of " + typeOf(made));
            boolean isWritten = made.getArguments().isEmpty()
                    || made.getArguments().size() == 1 && made.getArguments().get(0) instanceof LiteralTree;
            due(isWritten, tree, 6, "a throw without a written text");
        }
        return super.visitThrow(tree, nothing);
    }

    @Override
    public Void visitTry(TryTree tree, Void nothing) {
        due(false, tree, 6, "a try, of which the program has no need");
        return super.visitTry(tree, nothing);
    }

    @Override
    public Void visitCatch(CatchTree tree, Void nothing) {
        due(false, tree, 6, "a catch, of which the program has no need");
        return super.visitCatch(tree, nothing);
    }

    @Override
    public Void visitSynchronized(SynchronizedTree tree, Void nothing) {
        due(false, tree, 6, "synchronized");
        return super.visitSynchronized(tree, nothing);
    }

    @Override
    public Void visitAssert(AssertTree tree, Void nothing) {
        due(false, tree, 6, "assert");
        return super.visitAssert(tree, nothing);
    }

    // ---- rule 9: loops

    @Override
    public Void visitForLoop(ForLoopTree tree, Void nothing) {
        due(tree.getCondition() instanceof BinaryTree && tree.getUpdate().size() == 1, tree, 9, "no end of a loop");
        return super.visitForLoop(tree, nothing);
    }

    @Override
    public Void visitWhileLoop(WhileLoopTree tree, Void nothing) {
        due(tree.getCondition().toString().contains("<"), tree, 9, "no bound of a loop");
        return super.visitWhileLoop(tree, nothing);
    }

    @Override
    public Void visitDoWhileLoop(DoWhileLoopTree tree, Void nothing) {
        due(tree.getCondition().toString().contains("<"), tree, 9, "no bound of a loop");
        return super.visitDoWhileLoop(tree, nothing);
    }

    // ---- rule 11: sizes

    @Override
    public Void visitMethod(MethodTree tree, Void nothing) {
        String name = tree.getName().toString();
        long from = unit.getLineMap().getLineNumber(positions.getStartPosition(unit, tree));
        long to = unit.getLineMap().getLineNumber(positions.getEndPosition(unit, tree));
        due(to - from < MOST_LINES, tree, 11, name + " is too long");
        due(tree.getParameters().size() <= MOST_PARAMETERS, tree, 11, name + " has too many parameters");
        due(!NAMES_OF_OBJECT.contains(name), tree, 6, "a method named " + name);
        due(isPublic(tree) || !publicNames.contains(name), tree, 1, name + " bears the name of a public method");
        due(!tree.getModifiers().getFlags().contains(Modifier.NATIVE), tree, 4, "a native method");
        if (tree.getReturnType() != null && typeOf(tree.getReturnType()).getKind() != TypeKind.VOID) {
            checkType(tree, typeOf(tree.getReturnType()));
        }
        ExecutableElement around = method;
        method = (ExecutableElement) trees.getElement(getCurrentPath());
        callsOf.put(method, new TreeSet<>((a, b) -> a == b ? 0 : signed(a).compareTo(signed(b))));
        super.visitMethod(tree, nothing);
        method = around;
        return null;
    }

    private static String signed(Element element) {
        return element.getEnclosingElement() + "." + element;
    }
}
