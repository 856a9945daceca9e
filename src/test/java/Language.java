import com.sun.source.tree.AssertTree;
import com.sun.source.tree.BinaryTree;
import com.sun.source.tree.BlockTree;
import com.sun.source.tree.CatchTree;
import com.sun.source.tree.ClassTree;
import com.sun.source.tree.CompilationUnitTree;
import com.sun.source.tree.CompoundAssignmentTree;
import com.sun.source.tree.DoWhileLoopTree;
import com.sun.source.tree.ExpressionTree;
import com.sun.source.tree.ForLoopTree;
import com.sun.source.tree.ImportTree;
import com.sun.source.tree.LambdaExpressionTree;
import com.sun.source.tree.LiteralTree;
import com.sun.source.tree.MemberReferenceTree;
import com.sun.source.tree.MethodInvocationTree;
import com.sun.source.tree.MethodTree;
import com.sun.source.tree.NewClassTree;
import com.sun.source.tree.SwitchTree;
import com.sun.source.tree.SynchronizedTree;
import com.sun.source.tree.ThrowTree;
import com.sun.source.tree.Tree;
import com.sun.source.tree.TryTree;
import com.sun.source.tree.VariableTree;
import com.sun.source.tree.WhileLoopTree;
import com.sun.source.util.JavacTask;
import com.sun.source.util.TreePath;
import com.sun.source.util.TreePathScanner;
import com.sun.source.util.TreeScanner;
import com.sun.source.util.Trees;
import java.io.IOException;
import java.net.URI;
import java.util.ArrayList;
import java.util.LinkedHashMap;
import java.util.LinkedHashSet;
import java.util.List;
import java.util.Map;
import java.util.Set;
import javax.lang.model.element.Element;
import javax.lang.model.element.ElementKind;
import javax.lang.model.element.ExecutableElement;
import javax.lang.model.element.Modifier;
import javax.lang.model.type.TypeKind;
import javax.lang.model.type.TypeMirror;
import javax.tools.JavaCompiler;
import javax.tools.JavaFileObject;
import javax.tools.SimpleJavaFileObject;
import javax.tools.ToolProvider;

/** A source held against the rules of LANGUAGE.md that can be seen from its tree; what breaks one is told with its number. */
final class Language extends TreePathScanner<Void, Void> {
    private static final int MOST_PARAMETERS = 7;
    private static final int MOST_LINES = 60;
    private static final int DEEPEST = 8;
    private static final int MOST_CLASSES = 12;
    private static final int MOST_FIELDS = 20;
    private static final Set<String> IMPORTS = Set.of("java.util.ArrayList", "java.util.Arrays", "java.util.Iterator",
        "java.util.List", "java.util.NoSuchElementException");
    private static final Set<String> EXCEPTIONS = Set.of("IllegalStateException", "IllegalArgumentException",
        "IndexOutOfBoundsException", "ArithmeticException", "UnsupportedOperationException", "NoSuchElementException",
        "RuntimeException");
    private static final Set<String> MADE = Set.of("java.lang.String", "java.lang.StringBuilder", "java.util.ArrayList");
    private static final Set<String> LIBRARY = Set.of("String.length", "String.charAt", "String.isEmpty", "String.equals",
        "String.indexOf", "String.substring", "String.toCharArray", "StringBuilder.append", "StringBuilder.charAt",
        "StringBuilder.setCharAt", "StringBuilder.setLength", "StringBuilder.deleteCharAt", "StringBuilder.reverse",
        "StringBuilder.length", "StringBuilder.toString", "List.add", "List.get", "List.set", "List.remove", "List.size",
        "List.isEmpty", "List.clear", "List.of", "ArrayList.add", "ArrayList.get", "ArrayList.set", "ArrayList.remove",
        "ArrayList.size", "ArrayList.isEmpty", "ArrayList.clear", "System.arraycopy", "Arrays.copyOf",
        "Arrays.copyOfRange", "Arrays.fill", "Array.clone");
    private static final Set<String> CALCULATING = Set.of("Integer", "Long", "Math");
    private static final Set<TypeKind> BROKEN_NUMBERS = Set.of(TypeKind.DOUBLE, TypeKind.FLOAT);
    private static final Set<TypeKind> CONSTANTS = Set.of(TypeKind.INT, TypeKind.LONG, TypeKind.BOOLEAN, TypeKind.CHAR);

    private final List<String> broken = new ArrayList<>();
    private final Map<ExecutableElement, Set<ExecutableElement>> calls = new LinkedHashMap<>();
    private final CompilationUnitTree unit;
    private final Trees trees;
    private ExecutableElement inside;
    private int classes;

    private Language(CompilationUnitTree unit, Trees trees) {
        this.unit = unit;
        this.trees = trees;
    }

    /** What of a source breaks a rule, each with "rule" and its number ahead. */
    static List<String> broken(String source) throws IOException {
        JavaCompiler compiler = ToolProvider.getSystemJavaCompiler();
        List<String> wrong = new ArrayList<>();
        JavacTask task = (JavacTask) compiler.getTask(null, null, d -> wrong.add("does not compile: " + d),
            List.of("-proc:none"), null, List.of(asFile(source)));
        CompilationUnitTree unit = task.parse().iterator().next();
        task.analyze();
        if (!wrong.isEmpty()) {
            return wrong;
        }
        Language language = new Language(unit, Trees.instance(task));
        language.scan(new TreePath(unit), null);
        language.lookAtDepth();
        return language.broken;
    }

    private static JavaFileObject asFile(String source) {
        return new SimpleJavaFileObject(URI.create("string:///PenSwings.java"), JavaFileObject.Kind.SOURCE) {
            @Override
            public CharSequence getCharContent(boolean ignoreEncodingErrors) {
                return source;
            }
        };
    }

    private long lineAt(long position) {
        return unit.getLineMap().getLineNumber(position);
    }

    private long firstLine(Tree tree) {
        return lineAt(trees.getSourcePositions().getStartPosition(unit, tree));
    }

    private long lastLine(Tree tree) {
        return lineAt(trees.getSourcePositions().getEndPosition(unit, tree));
    }

    private void need(boolean kept, int rule, Tree tree, String what) {
        if (!kept) {
            broken.add("rule " + rule + ", line " + firstLine(tree) + ": " + what);
        }
    }

    private Element element(Tree tree) {
        return trees.getElement(TreePath.getPath(unit, tree));
    }

    private TypeMirror type(Tree tree) {
        return trees.getTypeMirror(TreePath.getPath(unit, tree));
    }

    private boolean isOwn(Element element) {
        for (Element e = element; e != null; e = e.getEnclosingElement()) {
            if (e.getSimpleName().contentEquals("PenSwings")) {
                return true;
            }
        }
        return false;
    }

    // ---- classes and fields: rules 2, 5, 11

    @Override
    public Void visitImport(ImportTree tree, Void none) {
        need(!tree.isStatic() && IMPORTS.contains(tree.getQualifiedIdentifier().toString()), 4, tree, "import " + tree);
        return super.visitImport(tree, none);
    }

    @Override
    public Void visitClass(ClassTree tree, Void none) {
        classes++;
        need(classes <= MOST_CLASSES, 11, tree, "too many classes");
        need(getCurrentPath().getParentPath().getLeaf().getKind() != Tree.Kind.BLOCK, 2, tree, "a local class");
        int fields = 0;
        for (Tree member : tree.getMembers()) {
            if (member instanceof VariableTree field) {
                boolean isStatic = field.getModifiers().getFlags().contains(Modifier.STATIC);
                fields += isStatic ? 0 : 1;
                if (isStatic) {
                    lookAtStatic(field);
                }
            }
            need(!(member instanceof BlockTree block && block.isStatic()), 5, member, "a static initialiser");
        }
        need(fields <= MOST_FIELDS, 11, tree, "too many fields");
        return super.visitClass(tree, none);
    }

    private void lookAtStatic(VariableTree field) {
        Element element = element(field);
        if (element.getKind() == ElementKind.ENUM_CONSTANT) {
            return;
        }
        need(field.getModifiers().getFlags().contains(Modifier.FINAL), 5, field, "static state " + field.getName());
        String name = element.asType().toString();
        boolean isText = name.equals("java.lang.String");
        boolean isRow = Set.of("int[]", "long[]", "char[]", "byte[]").contains(name);
        boolean isConstant = CONSTANTS.contains(element.asType().getKind());
        need(isText || isRow || isConstant, 5, field, "a static field of type " + name);
        boolean written = field.getInitializer() != null && !callsOrMakes(field.getInitializer());
        need(written, 5, field, field.getName() + " is not written out");
    }

    private static boolean callsOrMakes(Tree tree) {
        boolean[] found = new boolean[1];
        new TreeScanner<Void, Void>() {
            @Override
            public Void visitMethodInvocation(MethodInvocationTree call, Void none) {
                found[0] = true;
                return null;
            }

            @Override
            public Void visitNewClass(NewClassTree made, Void none) {
                found[0] = true;
                return null;
            }
        }.scan(tree, null);
        return found[0];
    }

    // ---- methods and what they call: rules 4, 8, 11

    @Override
    public Void visitMethod(MethodTree tree, Void none) {
        ExecutableElement outer = inside;
        inside = (ExecutableElement) element(tree);
        calls.putIfAbsent(inside, new LinkedHashSet<>());
        need(tree.getParameters().size() <= MOST_PARAMETERS, 11, tree, "too many parameters");
        need(lastLine(tree) - firstLine(tree) < MOST_LINES, 11, tree, tree.getName() + " is too long");
        super.visitMethod(tree, none);
        inside = outer;
        return null;
    }

    @Override
    public Void visitMethodInvocation(MethodInvocationTree tree, Void none) {
        ExecutableElement called = (ExecutableElement) element(tree);
        boolean isOwn = isOwn(called);
        if (isOwn && inside != null) {
            calls.get(inside).add(called);
        }
        // A class without a constructor of its own calls that of Object.
        boolean isMade = called.getKind() == ElementKind.CONSTRUCTOR;
        need(isOwn || isMade || isOfLibrary(called), 4, tree, "calls " + nameOf(called));
        return super.visitMethodInvocation(tree, none);
    }

    private static String nameOf(ExecutableElement called) {
        return called.getEnclosingElement().getSimpleName() + "." + called.getSimpleName();
    }

    private static boolean isOfLibrary(ExecutableElement called) {
        if (LIBRARY.contains(nameOf(called))) {
            return true;
        }
        boolean isWhole = !BROKEN_NUMBERS.contains(called.getReturnType().getKind());
        for (Element parameter : called.getParameters()) {
            isWhole &= !BROKEN_NUMBERS.contains(parameter.asType().getKind());
        }
        boolean isStatic = called.getModifiers().contains(Modifier.STATIC);
        boolean throwsItself = called.getSimpleName().toString().endsWith("Exact");
        boolean calculates = CALCULATING.contains(called.getEnclosingElement().getSimpleName().toString());
        return calculates && isStatic && isWhole && !throwsItself && !called.getSimpleName().contentEquals("random");
    }

    @Override
    public Void visitNewClass(NewClassTree tree, Void none) {
        ExecutableElement called = (ExecutableElement) element(tree);
        String name = called.getEnclosingElement().toString();
        boolean isThrown = getCurrentPath().getParentPath().getLeaf() instanceof ThrowTree;
        need(isOwn(called) || isThrown || MADE.contains(name), 4, tree, "makes " + name);
        if (isOwn(called) && inside != null) {
            calls.get(inside).add(called);
        }
        return super.visitNewClass(tree, none);
    }

    private void lookAtDepth() {
        for (ExecutableElement method : calls.keySet()) {
            List<ExecutableElement> row = deepest(method, new ArrayList<>());
            if (row.size() > DEEPEST) {
                broken.add("rule 11: calls go " + row.size() + " deep: " + row);
            }
        }
    }

    /** The longest row of calls from a method on; one that comes back to itself is told, and not followed. */
    private List<ExecutableElement> deepest(ExecutableElement method, List<ExecutableElement> open) {
        List<ExecutableElement> longest = new ArrayList<>();
        if (open.contains(method)) {
            broken.add("rule 8: " + nameOf(method) + " comes back to itself");
            return longest;
        }
        open.add(method);
        for (ExecutableElement called : calls.getOrDefault(method, Set.of())) {
            List<ExecutableElement> row = deepest(called, open);
            longest = row.size() > longest.size() ? row : longest;
        }
        open.remove(open.size() - 1);
        List<ExecutableElement> all = new ArrayList<>(List.of(method));
        all.addAll(longest);
        return all;
    }

    // ---- exceptions: rule 6

    @Override
    public Void visitThrow(ThrowTree tree, Void none) {
        boolean isNew = tree.getExpression() instanceof NewClassTree;
        need(isNew, 6, tree, "throws what is not made there");
        if (tree.getExpression() instanceof NewClassTree made) {
            need(EXCEPTIONS.contains(made.getIdentifier().toString()), 6, tree, "throws " + made.getIdentifier());
            need(made.getArguments().stream().allMatch(a -> a instanceof LiteralTree), 6, tree, "a text that is not written");
        }
        boolean inConstructor = inside != null && inside.getKind() == ElementKind.CONSTRUCTOR;
        need(!inConstructor, 6, tree, "throws in a constructor");
        for (TreePath p = getCurrentPath(); p != null && !(p.getLeaf() instanceof ClassTree); p = p.getParentPath()) {
            if (p.getLeaf() instanceof MethodTree method) {
                need(!tries(method), 6, tree, "throws and catches in one method");
            }
        }
        return super.visitThrow(tree, none);
    }

    private static boolean tries(Tree tree) {
        boolean[] found = new boolean[1];
        new TreeScanner<Void, Void>() {
            @Override
            public Void visitTry(TryTree one, Void none) {
                found[0] = true;
                return null;
            }
        }.scan(tree, null);
        return found[0];
    }

    @Override
    public Void visitTry(TryTree tree, Void none) {
        need(tree.getFinallyBlock() == null && tree.getResources().isEmpty(), 6, tree, "finally, or resources");
        return super.visitTry(tree, none);
    }

    @Override
    public Void visitCatch(CatchTree tree, Void none) {
        String caught = tree.getParameter().getType().toString();
        need(EXCEPTIONS.contains(caught), 6, tree, "catches " + caught);
        // The project's page rules these out: the machine throws them, or a class below them.
        boolean ofMachine = Set.of("IndexOutOfBoundsException", "ArithmeticException", "RuntimeException").contains(caught);
        need(!ofMachine, 6, tree, "catches what the machine throws: " + caught);
        return super.visitCatch(tree, none);
    }

    @Override
    public Void visitSynchronized(SynchronizedTree tree, Void none) {
        need(false, 6, tree, "synchronized");
        return super.visitSynchronized(tree, none);
    }

    @Override
    public Void visitAssert(AssertTree tree, Void none) {
        need(false, 6, tree, "assert");
        return super.visitAssert(tree, none);
    }

    // ---- expressions: rules 2, 3, 10

    @Override
    public Void visitLambdaExpression(LambdaExpressionTree tree, Void none) {
        need(false, 2, tree, "a lambda");
        return super.visitLambdaExpression(tree, none);
    }

    @Override
    public Void visitMemberReference(MemberReferenceTree tree, Void none) {
        need(false, 2, tree, "a method reference");
        return super.visitMemberReference(tree, none);
    }

    @Override
    public Void visitBinary(BinaryTree tree, Void none) {
        need(!isText(type(tree)), 10, tree, "a text joined by +");
        boolean compares = tree.getKind() == Tree.Kind.EQUAL_TO || tree.getKind() == Tree.Kind.NOT_EQUAL_TO;
        boolean ofTexts = isText(type(tree.getLeftOperand())) && isText(type(tree.getRightOperand()));
        need(!(compares && ofTexts), 6, tree, "two texts compared by reference");
        return super.visitBinary(tree, none);
    }

    @Override
    public Void visitCompoundAssignment(CompoundAssignmentTree tree, Void none) {
        need(!isText(type(tree)), 10, tree, "a text joined by +=");
        return super.visitCompoundAssignment(tree, none);
    }

    private static boolean isText(TypeMirror type) {
        return type != null && type.toString().equals("java.lang.String");
    }

    @Override
    public Void visitSwitch(SwitchTree tree, Void none) {
        need(!isText(type(tree.getExpression())), 10, tree, "a switch on a text");
        return super.visitSwitch(tree, none);
    }

    @Override
    public Void visitVariable(VariableTree tree, Void none) {
        String name = element(tree).asType().toString();
        boolean inCatch = getCurrentPath().getParentPath().getLeaf() instanceof CatchTree;
        need(inCatch || isType(name), 3, tree, tree.getName() + " is of type " + name);
        return super.visitVariable(tree, none);
    }

    private static boolean isType(String name) {
        String number = "int|long|short|byte|char|boolean|double|float";
        String own = "PenSwings(\\.\\w+)*";
        String list = "java\\.util\\.(Array)?List<(java\\.lang\\.Integer|" + own + ")>";
        return name.matches("(" + number + ")(\\[\\]){0,2}|(" + own + ")(\\[\\])?|" + list
            + "|java\\.lang\\.(String|StringBuilder|Integer)");
    }

    // ---- loops: rule 9

    @Override
    public Void visitForLoop(ForLoopTree tree, Void none) {
        lookAtEnd(tree, tree.getCondition());
        return super.visitForLoop(tree, none);
    }

    @Override
    public Void visitWhileLoop(WhileLoopTree tree, Void none) {
        lookAtEnd(tree, tree.getCondition());
        return super.visitWhileLoop(tree, none);
    }

    @Override
    public Void visitDoWhileLoop(DoWhileLoopTree tree, Void none) {
        lookAtEnd(tree, tree.getCondition());
        return super.visitDoWhileLoop(tree, none);
    }

    /** A counter against a bound, or a chain against its end, must stand in the condition and hold for all of it. */
    private void lookAtEnd(Tree loop, ExpressionTree condition) {
        need(condition != null && bounds(condition), 9, loop, "a loop without an end that can be seen");
    }

    private static boolean bounds(ExpressionTree condition) {
        switch (condition.getKind()) {
            case PARENTHESIZED:
                return bounds(((com.sun.source.tree.ParenthesizedTree) condition).getExpression());
            case CONDITIONAL_AND:
                BinaryTree both = (BinaryTree) condition;
                return bounds(both.getLeftOperand()) || bounds(both.getRightOperand());
            case LESS_THAN:
            case LESS_THAN_EQUAL:
            case GREATER_THAN:
            case GREATER_THAN_EQUAL:
                return true;
            case NOT_EQUAL_TO:
                return ((BinaryTree) condition).getRightOperand().getKind() == Tree.Kind.NULL_LITERAL;
            default:
                return false;
        }
    }
}
