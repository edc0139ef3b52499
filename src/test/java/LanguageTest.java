import com.sun.source.tree.AnnotationTree;
import com.sun.source.tree.AssertTree;
import com.sun.source.tree.AssignmentTree;
import com.sun.source.tree.BinaryTree;
import com.sun.source.tree.ClassTree;
import com.sun.source.tree.CompilationUnitTree;
import com.sun.source.tree.CompoundAssignmentTree;
import com.sun.source.tree.DoWhileLoopTree;
import com.sun.source.tree.ExpressionTree;
import com.sun.source.tree.ForLoopTree;
import com.sun.source.tree.ImportTree;
import com.sun.source.tree.LambdaExpressionTree;
import com.sun.source.tree.MemberReferenceTree;
import com.sun.source.tree.MethodInvocationTree;
import com.sun.source.tree.MethodTree;
import com.sun.source.tree.NewClassTree;
import com.sun.source.tree.SynchronizedTree;
import com.sun.source.tree.ThrowTree;
import com.sun.source.tree.Tree;
import com.sun.source.tree.TryTree;
import com.sun.source.tree.VariableTree;
import com.sun.source.tree.WhileLoopTree;
import com.sun.source.util.JavacTask;
import com.sun.source.util.SourcePositions;
import com.sun.source.util.TreePathScanner;
import com.sun.source.util.Trees;
import java.io.IOException;
import java.nio.file.Files;
import java.nio.file.Path;
import java.util.ArrayList;
import java.util.HashMap;
import java.util.HashSet;
import java.util.LinkedHashSet;
import java.util.List;
import java.util.Map;
import java.util.Set;
import javax.lang.model.element.Element;
import javax.lang.model.element.ElementKind;
import javax.lang.model.element.Modifier;
import javax.lang.model.element.TypeElement;
import javax.lang.model.type.ArrayType;
import javax.lang.model.type.TypeKind;
import javax.lang.model.type.TypeMirror;
import javax.tools.JavaCompiler;
import javax.tools.ToolProvider;

/**
 * The rules of LANGUAGE.md, looked for in the program as the compiler reads it. It holds to less than
 * they allow (no library but a few functions, no recursion at all), because the program needs no more.
 */
public final class LanguageTest extends TreePathScanner<Void, Void> {
    private static final Path SOURCE = Path.of("src/main/java/RenameMerge.java");
    private static final Set<String> LIBRARY = Set.of("java.util.Arrays.fill", "java.util.Arrays.copyOf",
            "java.util.Arrays.copyOfRange", "java.lang.Math.min", "java.lang.Math.max", "java.lang.Math.abs",
            "java.lang.System.arraycopy");
    private static final int MOST_LINES = 60;
    private static final int MOST_PARAMETERS = 7;
    private static final int MOST_DEPTH = 8;
    private static final int MOST_CLASSES = 12;
    private static final int MOST_FIELDS = 20;

    private final Set<String> broken = new LinkedHashSet<>();
    private final Map<String, Set<String>> calls = new HashMap<>();
    private final Map<String, Integer> fields = new HashMap<>();
    private final CompilationUnitTree unit;
    private final Trees trees;
    private int classes = 0;
    private String method = "";

    private LanguageTest(CompilationUnitTree unit, Trees trees) {
        this.unit = unit;
        this.trees = trees;
    }

    public static void main(String[] args) throws IOException {
        Check check = new Check();
        check.due("the program", found(Files.readString(SOURCE)), Set.of());
        for (String[] wrong : WRONG) {
            String program = "import java.util.Arrays; public final class RenameMerge { private int n = 0; "
                    + "private final int[] row = new int[3]; " + wrong[1] + " }";
            check.due("rule " + wrong[0] + " is seen in " + wrong[1], rules(found(program)).contains(wrong[0]), true);
        }
        check.end();
    }

    /** The test's own test: what breaks a rule must be found. */
    private static final String[][] WRONG = {
        {"1", "int seen() { return 1; }"},
        {"2", "private class Inner { }"},
        {"2", "private int f() { Runnable r = () -> { }; return 1; }"},
        {"2", "private void f() { class Local { } }"},
        {"3", "private Object o = null;"},
        {"3", "private int[][][] deep = null;"},
        {"3", "private String[][] words = null;"},
        {"4", "private int f() { return Arrays.hashCode(row); }"},
        {"4", "private int f() { return Math.addExact(1, 2); }"},
        {"4", "private java.util.Random source = null;"},
        {"5", "private static int count = 0;"},
        {"5", "private static final int[] ROW = new int[3];"},
        {"5", "private static final int[] ROW = {1}; private void f() { ROW[0] = 2; }"},
        {"5", "private static final int A; static { A = 1; }"},
        {"6", "private void f() { try { n = 1; } finally { n = 2; } }"},
        {"6", "private void f() { throw new RuntimeException(); }"},
        {"6", "private void f() { synchronized (this) { n = 1; } }"},
        {"6", "private boolean f(String a, String b) { return a == b; }"},
        {"8", "private int f(int x) { return x > 0 ? g(x - 1) : 0; } private int g(int x) { return f(x); }"},
        {"9", "private void f() { while (true) { n++; } }"},
        {"9", "private void f() { for (;;) { n++; } }"},
        {"10", "private String f(String a) { return a + n; }"},
        {"11", "private int f(int a, int b, int c, int d, int e, int g, int h, int i) { return 1; }"},
        {"11", "private int a() { return b(); } private int b() { return c(); } private int c() { return d(); }"
                + "private int d() { return e(); } private int e() { return f(); } private int f() { return g(); }"
                + "private int g() { return h(); } private int h() { return i(); } private int i() { return 1; }"},
    };

    private static Set<String> rules(Set<String> found) {
        Set<String> rules = new HashSet<>();
        found.forEach(words -> rules.add(words.substring("rule ".length(), words.indexOf(':'))));
        return rules;
    }

    private static Set<String> found(String program) throws IOException {
        Path file = Files.createTempDirectory("language").resolve("RenameMerge.java");
        Files.writeString(file, program);
        JavaCompiler compiler = ToolProvider.getSystemJavaCompiler();
        try (var files = compiler.getStandardFileManager(null, null, null)) {
            JavacTask task = (JavacTask) compiler.getTask(null, files, null, List.of("--release", "17", "-proc:none"),
                    null, files.getJavaFileObjects(file));
            CompilationUnitTree unit = task.parse().iterator().next();
            task.analyze();
            LanguageTest test = new LanguageTest(unit, Trees.instance(task));
            test.scan(unit, null);
            test.lookAtTheWhole();
            return test.broken;
        } finally {
            Files.delete(file);
            Files.delete(file.getParent());
        }
    }

    private void broke(int rule, String what) {
        broken.add("rule " + rule + ": " + what);
    }

    private void lookAtTheWhole() {
        if (classes > MOST_CLASSES) {
            broke(11, classes + " classes");
        }
        fields.forEach((type, count) -> {
            if (count > MOST_FIELDS) {
                broke(11, type + " has " + count + " fields");
            }
        });
        for (String name : calls.keySet()) {
            int depth = depthOf(name, new ArrayList<>());
            if (depth > MOST_DEPTH) {
                broke(11, name + " calls " + depth + " deep");
            }
        }
    }

    /** How many calls stand open at once, the call itself and those of the library among them. */
    private int depthOf(String name, List<String> open) {
        if (open.contains(name)) {
            broke(8, name + " calls itself");
            return 0;
        }
        open.add(name);
        int deepest = 0;
        for (String called : calls.getOrDefault(name, Set.of())) {
            deepest = Math.max(deepest, depthOf(called, open));
        }
        open.remove(name);
        return deepest + 1;
    }

    private Element element() {
        return trees.getElement(getCurrentPath());
    }

    private static boolean isOwn(Element element) {
        Element outer = element;
        while (outer.getEnclosingElement() != null && outer.getEnclosingElement().getKind() != ElementKind.PACKAGE) {
            outer = outer.getEnclosingElement();
        }
        return outer.getSimpleName().contentEquals("RenameMerge");
    }

    private static String nameOf(Element function) {
        return function.getEnclosingElement() + "." + function;
    }

    // rules 1, 2, 11: classes, methods and fields

    @Override
    public Void visitImport(ImportTree tree, Void none) {
        if (tree.isStatic() || !tree.getQualifiedIdentifier().toString().equals("java.util.Arrays")) {
            broke(4, tree.toString());
        }
        return null;
    }

    @Override
    public Void visitClass(ClassTree tree, Void none) {
        classes++;
        Element type = element();
        Set<Modifier> modifiers = type.getModifiers();
        boolean isOuter = type.getEnclosingElement().getKind() == ElementKind.PACKAGE;
        if (isOuter && !modifiers.containsAll(Set.of(Modifier.PUBLIC, Modifier.FINAL))) {
            broke(1, "the class is not public and final");
        }
        if (isOuter && !unit.getTypeDecls().equals(List.of(tree))) {
            broke(1, "a class beside the class");
        }
        if (!isOuter && (!type.getEnclosingElement().getKind().isClass() || !modifiers.contains(Modifier.STATIC))) {
            broke(2, type + " is local or not static");
        }
        if (!isOuter && (modifiers.contains(Modifier.PUBLIC) || modifiers.contains(Modifier.PROTECTED))) {
            broke(1, type + " is public or protected");
        }
        lookAtMembers(tree, isOuter);
        return super.visitClass(tree, none);
    }

    private void lookAtMembers(ClassTree tree, boolean isOuter) {
        for (Tree member : tree.getMembers()) {
            if (member.getKind() == Tree.Kind.BLOCK) {
                broke(5, "a block of a class");
            }
            Set<Modifier> modifiers = member instanceof MethodTree m ? m.getModifiers().getFlags()
                    : member instanceof VariableTree v ? v.getModifiers().getFlags() : Set.of(Modifier.PRIVATE);
            boolean hidden = modifiers.contains(Modifier.PRIVATE);
            if (isOuter ? !hidden && !modifiers.contains(Modifier.PUBLIC)
                    : modifiers.contains(Modifier.PUBLIC) || modifiers.contains(Modifier.PROTECTED)) {
                broke(1, "seen from outside: " + member);
            }
        }
    }

    @Override
    public Void visitMethod(MethodTree tree, Void none) {
        String outer = method;
        method = nameOf(element());
        calls.putIfAbsent(method, new HashSet<>());
        SourcePositions positions = trees.getSourcePositions();
        long first = unit.getLineMap().getLineNumber(Math.max(positions.getStartPosition(unit, tree), 0));
        long last = unit.getLineMap().getLineNumber(Math.max(positions.getEndPosition(unit, tree), 0));
        if (last - first >= MOST_LINES) {
            broke(11, method + " is long");
        }
        if (tree.getParameters().size() > MOST_PARAMETERS) {
            broke(11, method + " has many parameters");
        }
        if (!tree.getThrows().isEmpty()) {
            broke(6, method + " throws");
        }
        if (tree.getReturnType() != null) {
            lookAtType(trees.getTypeMirror(trees.getPath(unit, tree.getReturnType())), method);
        }
        super.visitMethod(tree, none);
        method = outer;
        return null;
    }

    // rules 3, 5: types and static fields

    @Override
    public Void visitVariable(VariableTree tree, Void none) {
        Element variable = element();
        lookAtType(variable.asType(), variable.toString());
        if (variable.getKind() == ElementKind.FIELD) {
            if (variable.getModifiers().contains(Modifier.STATIC)) {
                lookAtStatic(tree, variable);
            } else {
                fields.merge(variable.getEnclosingElement().toString(), 1, Integer::sum);
            }
        }
        return super.visitVariable(tree, none);
    }

    private void lookAtStatic(VariableTree tree, Element field) {
        boolean isNumber = field.asType().getKind().isPrimitive() && tree.getInitializer() != null;
        boolean isRow = tree.getInitializer() != null && tree.getInitializer().toString().matches("(new int\\[\\])?\\{.*\\}");
        if (!field.getModifiers().contains(Modifier.FINAL) || !isNumber && !isRow) {
            broke(5, "static " + field);
        }
    }

    private void lookAtType(TypeMirror type, String where) {
        TypeMirror core = type;
        int dimensions = 0;
        while (core instanceof ArrayType array) {
            core = array.getComponentType();
            dimensions++;
        }
        boolean isOwnClass = core.getKind() == TypeKind.DECLARED
                && isOwn(((javax.lang.model.type.DeclaredType) core).asElement());
        boolean isNumber = core.getKind().isPrimitive() && core.getKind() != TypeKind.BOOLEAN;
        boolean isFine = core.getKind() == TypeKind.VOID || core.getKind().isPrimitive() || isOwnClass
                || core.toString().equals("java.lang.String") && dimensions == 0;
        if (!isFine || dimensions > 2 || dimensions == 2 && !isNumber) {
            broke(3, where + " is " + type);
        }
        if (core.getKind() == TypeKind.DECLARED && !isOwnClass && !core.toString().startsWith("java.lang.")) {
            broke(4, where + " is " + type);
        }
    }

    @Override
    public Void visitAssignment(AssignmentTree tree, Void none) {
        lookAtChange(tree.getVariable());
        return super.visitAssignment(tree, none);
    }

    @Override
    public Void visitCompoundAssignment(CompoundAssignmentTree tree, Void none) {
        lookAtChange(tree.getVariable());
        return super.visitCompoundAssignment(tree, none);
    }

    /** The elements of a static row are never changed where they are named so. */
    private void lookAtChange(ExpressionTree changed) {
        String name = changed.toString().replaceAll("\\[.*", "");
        if (name.equals(name.toUpperCase())) {
            broke(5, changed + " is changed");
        }
    }

    // rules 4, 8, 12: calls and new objects

    @Override
    public Void visitMethodInvocation(MethodInvocationTree tree, Void none) {
        Element called = element();
        if (called.getKind() != ElementKind.CONSTRUCTOR || isOwn(called)) {
            lookAtCall(called);
        }
        return super.visitMethodInvocation(tree, none);
    }

    private void lookAtCall(Element called) {
        calls.computeIfAbsent(method, name -> new HashSet<>()).add(nameOf(called));
        String plainName = called.getEnclosingElement() + "." + called.getSimpleName();
        if (!isOwn(called) && !LIBRARY.contains(plainName)) {
            broke(4, plainName);
        }
    }

    @Override
    public Void visitNewClass(NewClassTree tree, Void none) {
        Element made = element();
        if (tree.getClassBody() != null) {
            broke(2, "a class without a name");
        }
        calls.computeIfAbsent(method, name -> new HashSet<>()).add(nameOf(made));
        if (!isOwn(made)) {
            broke(4, "new " + ((TypeElement) made.getEnclosingElement()).getQualifiedName());
        }
        return super.visitNewClass(tree, none);
    }

    @Override
    public Void visitLambdaExpression(LambdaExpressionTree tree, Void none) {
        broke(2, tree.toString());
        return super.visitLambdaExpression(tree, none);
    }

    @Override
    public Void visitMemberReference(MemberReferenceTree tree, Void none) {
        broke(2, tree.toString());
        return super.visitMemberReference(tree, none);
    }

    // rules 6, 9, 10: statements

    @Override
    public Void visitThrow(ThrowTree tree, Void none) {
        broke(6, tree.toString());
        return super.visitThrow(tree, none);
    }

    @Override
    public Void visitTry(TryTree tree, Void none) {
        broke(6, "try");
        return super.visitTry(tree, none);
    }

    @Override
    public Void visitSynchronized(SynchronizedTree tree, Void none) {
        broke(6, "synchronized");
        return super.visitSynchronized(tree, none);
    }

    @Override
    public Void visitAssert(AssertTree tree, Void none) {
        broke(6, tree.toString());
        return super.visitAssert(tree, none);
    }

    @Override
    public Void visitAnnotation(AnnotationTree tree, Void none) {
        broke(4, tree.toString());
        return super.visitAnnotation(tree, none);
    }

    @Override
    public Void visitBinary(BinaryTree tree, Void none) {
        boolean text = isText(tree.getLeftOperand()) || isText(tree.getRightOperand());
        if (text && tree.getKind() == Tree.Kind.PLUS) {
            broke(10, tree.toString());
        } else if (text) {
            broke(6, tree.toString());
        }
        return super.visitBinary(tree, none);
    }

    private boolean isText(ExpressionTree tree) {
        TypeMirror type = trees.getTypeMirror(trees.getPath(unit, tree));
        return type != null && type.toString().equals("java.lang.String");
    }

    @Override
    public Void visitForLoop(ForLoopTree tree, Void none) {
        if (tree.getCondition() == null || tree.getUpdate().isEmpty()) {
            broke(9, tree.toString());
        }
        return super.visitForLoop(tree, none);
    }

    @Override
    public Void visitWhileLoop(WhileLoopTree tree, Void none) {
        if (!tree.getCondition().toString().contains("<")) {
            broke(9, tree.toString());
        }
        return super.visitWhileLoop(tree, none);
    }

    @Override
    public Void visitDoWhileLoop(DoWhileLoopTree tree, Void none) {
        broke(9, tree.toString());
        return super.visitDoWhileLoop(tree, none);
    }
}
