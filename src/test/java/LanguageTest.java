import com.sun.source.tree.AssertTree;
import com.sun.source.tree.BinaryTree;
import com.sun.source.tree.BlockTree;
import com.sun.source.tree.ClassTree;
import com.sun.source.tree.CompilationUnitTree;
import com.sun.source.tree.CompoundAssignmentTree;
import com.sun.source.tree.DoWhileLoopTree;
import com.sun.source.tree.ExpressionTree;
import com.sun.source.tree.ForLoopTree;
import com.sun.source.tree.LambdaExpressionTree;
import com.sun.source.tree.LiteralTree;
import com.sun.source.tree.MemberReferenceTree;
import com.sun.source.tree.MethodInvocationTree;
import com.sun.source.tree.MethodTree;
import com.sun.source.tree.NewArrayTree;
import com.sun.source.tree.NewClassTree;
import com.sun.source.tree.ParenthesizedTree;
import com.sun.source.tree.SynchronizedTree;
import com.sun.source.tree.ThrowTree;
import com.sun.source.tree.Tree;
import com.sun.source.tree.TryTree;
import com.sun.source.tree.VariableTree;
import com.sun.source.tree.WhileLoopTree;
import com.sun.source.util.JavacTask;
import com.sun.source.util.TreePath;
import com.sun.source.util.TreePathScanner;
import com.sun.source.util.Trees;
import java.io.IOException;
import java.net.URI;
import java.nio.file.Files;
import java.nio.file.Path;
import java.util.ArrayList;
import java.util.HashMap;
import java.util.LinkedHashMap;
import java.util.LinkedHashSet;
import java.util.List;
import java.util.Map;
import java.util.Set;
import javax.lang.model.element.Element;
import javax.lang.model.element.ElementKind;
import javax.lang.model.element.ExecutableElement;
import javax.lang.model.element.Modifier;
import javax.lang.model.element.TypeElement;
import javax.lang.model.element.VariableElement;
import javax.lang.model.type.ArrayType;
import javax.lang.model.type.DeclaredType;
import javax.lang.model.type.TypeKind;
import javax.lang.model.type.TypeMirror;
import javax.tools.JavaFileObject;
import javax.tools.SimpleJavaFileObject;
import javax.tools.ToolProvider;

/**
 * Holds the file src/main/java/SturmRoots.java against those rules of ../shared/LANGUAGE.md that can
 * be read off the text: javac's own tree of it is looked through. Where the class does without what a
 * rule allows (try, double, enums' values), the test is stricter than the rule. Of the rest, FaceTest
 * holds rule 1, RoomTest rule 12, and all other tests rule 7.
 *
 * <p>The test also looks through small programs that break one rule each, and fails if it finds
 * nothing in one of them.
 */
public final class LanguageTest {
    private static final Set<String> IMPORTS = Set.of("java.util.ArrayList", "java.util.List", "java.util.Arrays",
            "java.util.Iterator", "java.util.NoSuchElementException");

    private static final Set<String> EXCEPTIONS = Set.of("java.lang.IllegalStateException",
            "java.lang.IllegalArgumentException", "java.lang.IndexOutOfBoundsException", "java.lang.ArithmeticException",
            "java.lang.UnsupportedOperationException", "java.util.NoSuchElementException", "java.lang.RuntimeException");

    /** Rule 4, but for the static functions of Integer, Long and Math. */
    private static final Set<String> LIBRARY = Set.of("java.lang.Object.<init>()",
            "java.lang.String.length()", "java.lang.String.charAt(int)", "java.lang.String.isEmpty()",
            "java.lang.String.equals(java.lang.Object)", "java.lang.String.indexOf(int)",
            "java.lang.String.substring(int)", "java.lang.String.substring(int,int)", "java.lang.String.toCharArray()",
            "java.lang.String.<init>(char[])", "java.lang.StringBuilder.<init>()", "java.lang.StringBuilder.append(char)",
            "java.lang.StringBuilder.append(java.lang.String)", "java.lang.StringBuilder.append(int)",
            "java.lang.StringBuilder.charAt(int)", "java.lang.StringBuilder.setCharAt(int,char)",
            "java.lang.StringBuilder.setLength(int)", "java.lang.StringBuilder.deleteCharAt(int)",
            "java.lang.StringBuilder.reverse()", "java.lang.StringBuilder.length()", "java.lang.StringBuilder.toString()",
            "java.util.ArrayList.<init>()", "java.util.ArrayList.add(E)", "java.util.ArrayList.add(int,E)",
            "java.util.ArrayList.get(int)", "java.util.ArrayList.set(int,E)", "java.util.ArrayList.remove(int)",
            "java.util.ArrayList.size()", "java.util.ArrayList.isEmpty()", "java.util.ArrayList.clear()",
            "java.lang.System.arraycopy(java.lang.Object,int,java.lang.Object,int,int)");

    private static final Set<String> NUMBERS = Set.of("int", "long", "short", "byte", "char", "boolean");

    private static final int MOST_PARAMETERS = 7;
    private static final int MOST_LINES = 60;
    private static final int MOST_DEEP = 8;
    private static final int MOST_CLASSES = 12;
    private static final int MOST_FIELDS = 20;

    /** Looks through the tree of one file. */
    private static final class Reader extends TreePathScanner<Void, Void> {
        private final Trees trees;
        private final CompilationUnitTree unit;
        private final Set<String> found = new LinkedHashSet<>();
        private final Map<Element, Set<Element>> calls = new LinkedHashMap<>();
        private int classes = 0;

        Reader(Trees trees, CompilationUnitTree unit) {
            this.trees = trees;
            this.unit = unit;
        }

        Set<String> read() {
            hold(1, unit.getPackageName() == null && unit.getTypeDecls().size() == 1, unit, "not one class without a package");
            unit.getImports().forEach(tree -> hold(4, !tree.isStatic()
                    && IMPORTS.contains(tree.getQualifiedIdentifier().toString()), tree, "this import"));
            scan(unit, null);
            hold(11, classes <= MOST_CLASSES, unit, "so many classes: " + classes);
            Map<Element, Integer> depths = new HashMap<>();
            for (Element method : calls.keySet()) {
                int depth = depth(method, depths);
                hold(11, depth <= MOST_DEEP, unit, "calls so deep: " + depth + " from " + method);
            }
            return found;
        }

        private void hold(int rule, boolean holds, Tree where, String what) {
            if (!holds) {
                long start = trees.getSourcePositions().getStartPosition(unit, where);
                long line = start < 0 ? 0 : unit.getLineMap().getLineNumber(start);
                found.add("rule " + rule + ", line " + line + ": " + what);
            }
        }

        private Element element() {
            return trees.getElement(getCurrentPath());
        }

        private TypeMirror typeOf(Tree tree) {
            return trees.getTypeMirror(new TreePath(getCurrentPath(), tree));
        }

        private static boolean isType(TypeMirror type, String name) {
            return type != null && type.toString().equals(name);
        }

        // ---- the order of calls: a call of the library counts, too

        private int depth(Element method, Map<Element, Integer> depths) {
            if (depths.containsKey(method)) {
                int known = depths.get(method);
                hold(8, known > 0, unit, "recursion in " + method);
                return known;
            }
            depths.put(method, 0);
            int deepest = 0;
            for (Element called : calls.getOrDefault(method, Set.of())) {
                deepest = Math.max(deepest, depth(called, depths));
            }
            depths.put(method, deepest + 1);
            return deepest + 1;
        }

        /** Calls in a field's initialiser count as the class's. */
        private Element caller() {
            for (TreePath path = getCurrentPath(); path != null; path = path.getParentPath()) {
                if (path.getLeaf() instanceof MethodTree || path.getLeaf() instanceof ClassTree) {
                    return trees.getElement(path);
                }
            }
            return null;
        }

        private void called(Tree tree, Element element) {
            if (!(element instanceof ExecutableElement)) {
                hold(4, false, tree, "a call of something unknown");
                return;
            }
            ExecutableElement method = (ExecutableElement) element;
            calls.computeIfAbsent(caller(), key -> new LinkedHashSet<>()).add(method);
            hold(4, isOwn(method.getEnclosingElement()) || isOfLibrary(method), tree,
                    "a call of " + method.getEnclosingElement() + "." + method);
        }

        private static String signature(ExecutableElement method) {
            List<String> types = new ArrayList<>();
            method.getParameters().forEach(parameter -> types.add(parameter.asType().toString()));
            return method.getEnclosingElement() + "." + method.getSimpleName() + "(" + String.join(",", types) + ")";
        }

        private static boolean isOfLibrary(ExecutableElement method) {
            String owner = method.getEnclosingElement().toString();
            String name = method.getSimpleName().toString();
            if (owner.equals("java.lang.Math") || owner.equals("java.lang.Integer") || owner.equals("java.lang.Long")) {
                boolean overIntegers = method.getParameters().stream()
                        .allMatch(parameter -> Set.of("int", "long").contains(parameter.asType().toString()));
                return overIntegers && method.getModifiers().contains(Modifier.STATIC) && !name.endsWith("Exact");
            }
            if (EXCEPTIONS.contains(owner) && name.equals("<init>")) {
                return true;
            }
            if (owner.equals("java.util.Arrays")) {
                return Set.of("copyOf", "copyOfRange", "fill").contains(name);
            }
            return LIBRARY.contains(signature(method)) || owner.equals("Array") && name.equals("clone");
        }

        private static boolean isOwn(Element type) {
            for (Element outer = type; outer != null; outer = outer.getEnclosingElement()) {
                if (outer.toString().equals("SturmRoots")) {
                    return true;
                }
            }
            return false;
        }

        @Override
        public Void visitMethodInvocation(MethodInvocationTree tree, Void nothing) {
            called(tree, element());
            return super.visitMethodInvocation(tree, nothing);
        }

        @Override
        public Void visitNewClass(NewClassTree tree, Void nothing) {
            called(tree, element());
            return super.visitNewClass(tree, nothing);
        }

        // ---- classes, methods and variables

        @Override
        public Void visitClass(ClassTree tree, Void nothing) {
            classes++;
            TypeElement type = (TypeElement) element();
            boolean isOuter = type.getEnclosingElement().getKind() == ElementKind.PACKAGE;
            hold(2, isOuter || type.getModifiers().contains(Modifier.STATIC), tree, "a class inside that is not static");
            int fields = 0;
            for (Tree member : tree.getMembers()) {
                if (member instanceof BlockTree) {
                    hold(5, !((BlockTree) member).isStatic(), member, "a static initialiser block");
                } else if (member instanceof VariableTree
                        && !((VariableTree) member).getModifiers().getFlags().contains(Modifier.STATIC)) {
                    fields++;
                }
            }
            hold(11, fields <= MOST_FIELDS, tree, "so many fields: " + fields);
            return super.visitClass(tree, nothing);
        }

        @Override
        public Void visitMethod(MethodTree tree, Void nothing) {
            hold(11, tree.getParameters().size() <= MOST_PARAMETERS, tree, "so many parameters");
            long start = trees.getSourcePositions().getStartPosition(unit, tree);
            long end = trees.getSourcePositions().getEndPosition(unit, tree);
            if (start >= 0 && end >= 0) {
                long lines = unit.getLineMap().getLineNumber(end) - unit.getLineMap().getLineNumber(start) + 1;
                hold(11, lines <= MOST_LINES, tree, "so many lines: " + lines);
            }
            return super.visitMethod(tree, nothing);
        }

        @Override
        public Void visitVariable(VariableTree tree, Void nothing) {
            VariableElement variable = (VariableElement) element();
            hold(3, isAllowed(variable.asType()), tree, "the type " + variable.asType());
            boolean isField = variable.getKind() == ElementKind.FIELD;
            if (isField && variable.getModifiers().contains(Modifier.STATIC)) {
                boolean isRow = tree.getInitializer() instanceof NewArrayTree
                        && Set.of("int[]", "long[]", "char[]", "byte[]").contains(variable.asType().toString());
                hold(5, variable.getModifiers().contains(Modifier.FINAL), tree, "a static field that is not final");
                hold(5, variable.getConstantValue() != null || isRow, tree, "a static field that is no constant");
            }
            return super.visitVariable(tree, nothing);
        }

        private static boolean isAllowed(TypeMirror type) {
            if (type.getKind() == TypeKind.ARRAY) {
                TypeMirror part = ((ArrayType) type).getComponentType();
                if (part.getKind() == TypeKind.ARRAY) {
                    return NUMBERS.contains(((ArrayType) part).getComponentType().toString());
                }
                return NUMBERS.contains(part.toString()) || isOwnType(part);
            }
            String name = type.toString();
            if (NUMBERS.contains(name) || name.equals("java.lang.String") || name.equals("java.lang.StringBuilder")) {
                return true;
            }
            if (name.startsWith("java.util.ArrayList<") || name.startsWith("java.util.List<")) {
                return ((DeclaredType) type).getTypeArguments().stream()
                        .allMatch(part -> isOwnType(part) || isType(part, "java.lang.Integer"));
            }
            return isOwnType(type);
        }

        private static boolean isOwnType(TypeMirror type) {
            return type.getKind() == TypeKind.DECLARED && isOwn(((DeclaredType) type).asElement());
        }

        // ---- statements and expressions

        @Override
        public Void visitThrow(ThrowTree tree, Void nothing) {
            boolean isNew = tree.getExpression() instanceof NewClassTree;
            hold(6, isNew, tree, "a throw of something that is not new");
            if (isNew) {
                NewClassTree thrown = (NewClassTree) tree.getExpression();
                List<? extends ExpressionTree> arguments = thrown.getArguments();
                hold(6, EXCEPTIONS.contains(String.valueOf(typeOf(thrown))), tree, "a throw of another exception");
                hold(6, arguments.isEmpty() || arguments.size() == 1 && arguments.get(0).getKind() == Tree.Kind.STRING_LITERAL,
                        tree, "an exception without a written text");
            }
            Element caller = caller();
            hold(6, caller == null || caller.getKind() != ElementKind.CONSTRUCTOR, tree, "a throw in a constructor");
            return super.visitThrow(tree, nothing);
        }

        @Override
        public Void visitTry(TryTree tree, Void nothing) {
            hold(6, false, tree, "try: the class catches nothing");
            return super.visitTry(tree, nothing);
        }

        @Override
        public Void visitSynchronized(SynchronizedTree tree, Void nothing) {
            hold(6, false, tree, "synchronized");
            return super.visitSynchronized(tree, nothing);
        }

        @Override
        public Void visitAssert(AssertTree tree, Void nothing) {
            hold(6, false, tree, "assert");
            return super.visitAssert(tree, nothing);
        }

        @Override
        public Void visitLambdaExpression(LambdaExpressionTree tree, Void nothing) {
            hold(2, false, tree, "a lambda");
            return super.visitLambdaExpression(tree, nothing);
        }

        @Override
        public Void visitMemberReference(MemberReferenceTree tree, Void nothing) {
            hold(2, false, tree, "a method reference");
            return super.visitMemberReference(tree, nothing);
        }

        @Override
        public Void visitBinary(BinaryTree tree, Void nothing) {
            TypeMirror left = typeOf(tree.getLeftOperand());
            TypeMirror right = typeOf(tree.getRightOperand());
            boolean equality = tree.getKind() == Tree.Kind.EQUAL_TO || tree.getKind() == Tree.Kind.NOT_EQUAL_TO;
            for (String name : new String[] {"java.lang.String", "java.lang.Integer"}) {
                hold(6, !equality || !isType(left, name) || !isType(right, name), tree, "== between two of " + name);
            }
            hold(10, tree.getKind() != Tree.Kind.PLUS || !isType(left, "java.lang.String") && !isType(right, "java.lang.String"),
                    tree, "texts joined by +");
            return super.visitBinary(tree, nothing);
        }

        @Override
        public Void visitCompoundAssignment(CompoundAssignmentTree tree, Void nothing) {
            hold(10, !isType(typeOf(tree.getVariable()), "java.lang.String"), tree, "texts joined by +=");
            return super.visitCompoundAssignment(tree, nothing);
        }

        @Override
        public Void visitLiteral(LiteralTree tree, Void nothing) {
            boolean plain = String.valueOf(tree.getValue()).chars().allMatch(sign -> sign >= 1 && sign <= 127);
            hold(4, plain, tree, "a sign that is not one of 1 to 127");
            return super.visitLiteral(tree, nothing);
        }

        private void holdEnd(Tree loop, ExpressionTree condition) {
            ExpressionTree inner = condition;
            while (inner instanceof ParenthesizedTree) {
                inner = ((ParenthesizedTree) inner).getExpression();
            }
            boolean forever = inner == null || inner instanceof LiteralTree;
            hold(9, !forever, loop, "a loop whose end is not seen");
        }

        @Override
        public Void visitForLoop(ForLoopTree tree, Void nothing) {
            holdEnd(tree, tree.getCondition());
            return super.visitForLoop(tree, nothing);
        }

        @Override
        public Void visitWhileLoop(WhileLoopTree tree, Void nothing) {
            holdEnd(tree, tree.getCondition());
            return super.visitWhileLoop(tree, nothing);
        }

        @Override
        public Void visitDoWhileLoop(DoWhileLoopTree tree, Void nothing) {
            holdEnd(tree, tree.getCondition());
            return super.visitDoWhileLoop(tree, nothing);
        }
    }

    // ---- programs that break one rule each

    private static final String[][] BAD = {
        {"rule 1", "public final class SturmRoots { } class Other { }"},
        {"rule 2", "class SturmRoots { class Inner { } }"},
        {"rule 2", "class SturmRoots { interface F { int f(); } F f() { return () -> 1; } }"},
        {"rule 2", "class SturmRoots { interface F { int f(); } int g() { return 1; } F f() { return this::g; } }"},
        {"rule 3", "class SturmRoots { private final Object o = null; }"},
        {"rule 3", "class SturmRoots { private final String[] texts = null; }"},
        {"rule 3", "class SturmRoots { private final SturmRoots[][] rows = null; }"},
        {"rule 3", "class SturmRoots { private final java.util.ArrayList<String> list = null; }"},
        {"rule 3", "class SturmRoots { private java.math.BigInteger value; }"},
        {"rule 3", "class SturmRoots { private Integer value; }"},
        {"rule 4", "import java.util.*; class SturmRoots { }"},
        {"rule 4", "import java.math.BigInteger; class SturmRoots { }"},
        {"rule 4", "class SturmRoots { int f() { return Math.addExact(1, 2); } }"},
        {"rule 4", "class SturmRoots { int f() { return (int) Math.sqrt(2); } }"},
        {"rule 4", "class SturmRoots { int f() { return Math.round(2f); } }"},
        {"rule 4", "class SturmRoots { String f(String s) { return s.trim(); } }"},
        {"rule 4", "import java.util.ArrayList; class SturmRoots { void f(ArrayList<Integer> l) { l.sort(null); } }"},
        {"rule 4", "import java.util.ArrayList; class SturmRoots { void f(ArrayList<SturmRoots> l) { l.remove(this); } }"},
        {"rule 4", "class SturmRoots { long f() { return System.nanoTime(); } }"},
        {"rule 4", "class SturmRoots { String f() { return \"\u00e9\"; } }"},
        {"rule 5", "class SturmRoots { private static int count = 0; }"},
        {"rule 5", "class SturmRoots { private static final SturmRoots ONE = null; }"},
        {"rule 5", "class SturmRoots { private static final int N; static { N = 1; } }"},
        {"rule 6", "class SturmRoots { void f() { throw new Error(); } }"},
        {"rule 6", "class SturmRoots { void f() { throw new NullPointerException(); } }"},
        {"rule 6", "class SturmRoots { void f(String s) { throw new IllegalStateException(s); } }"},
        {"rule 6", "class SturmRoots { void f(RuntimeException e) { throw e; } }"},
        {"rule 6", "class SturmRoots { SturmRoots() { throw new IllegalStateException(); } }"},
        {"rule 6", "class SturmRoots { int f(int a) { try { return 1 / a; } catch (RuntimeException e) { return 0; } } }"},
        {"rule 6", "class SturmRoots { void f() { synchronized (this) { } } }"},
        {"rule 6", "class SturmRoots { void f(int a) { assert a > 0; } }"},
        {"rule 6", "class SturmRoots { boolean f(String a, String b) { return a == b; } }"},
        {"rule 8", "class SturmRoots { int f(int a) { return a == 0 ? 0 : f(a - 1); } }"},
        {"rule 8", "class SturmRoots { int f(int a) { return g(a); } int g(int a) { return f(a); } }"},
        {"rule 9", "class SturmRoots { int f(int a) { for (;;) { if (a > 3) { return a; } a++; } } }"},
        {"rule 9", "class SturmRoots { int f(int a) { while (true) { if (a > 3) { return a; } a++; } } }"},
        {"rule 9", "class SturmRoots { int f(int a) { do { if (a > 3) { return a; } a++; } while (true); } }"},
        {"rule 10", "class SturmRoots { String f(int a) { return \"a\" + a; } }"},
        {"rule 10", "class SturmRoots { String f(String a) { a += 'a'; return a; } }"},
        {"rule 11", "class SturmRoots { void f(int a, int b, int c, int d, int e, int f, int g, int h) { } }"},
        {"rule 11", "class SturmRoots { void a() { b(); } void b() { c(); } void c() { d(); } void d() { e(); } "
                + "void e() { f(); } void f() { g(); } void g() { h(); } void h() { i(); } void i() { } }"},
        {"rule 11", "class SturmRoots { void f() { " + "\n".repeat(60) + " } }"},
        {"rule 11", "class SturmRoots { int a, b, c, d, e, f, g, h, i, j, k, l, m, n, o, p, q, r, s, t, u; }"},
        {"rule 11", "class SturmRoots { static class A { } static class B { } static class C { } static class D { } "
                + "static class E { } static class F { } static class G { } static class H { } static class I { } "
                + "static class J { } static class K { } static class L { } }"},
    };

    private static Set<String> findings(String text) throws IOException {
        JavaFileObject file = new SimpleJavaFileObject(URI.create("string:///SturmRoots.java"), JavaFileObject.Kind.SOURCE) {
            @Override
            public CharSequence getCharContent(boolean ignoreErrors) {
                return text;
            }
        };
        JavacTask task = (JavacTask) ToolProvider.getSystemJavaCompiler()
                .getTask(null, null, null, List.of("-proc:none"), null, List.of(file));
        CompilationUnitTree unit = task.parse().iterator().next();
        task.analyze();
        return new Reader(Trees.instance(task), unit).read();
    }

    private static int missedRules() throws IOException {
        int missed = 0;
        for (String[] bad : BAD) {
            Set<String> found = findings(bad[1]);
            if (found.stream().noneMatch(text -> text.startsWith(bad[0] + ","))) {
                missed++;
                System.out.println("this test does not find what breaks " + bad[0] + " in " + bad[1]);
            }
        }
        return missed;
    }

    public static void main(String[] args) throws IOException {
        Set<String> found = findings(Files.readString(Path.of("src/main/java/SturmRoots.java")));
        found.forEach(System.out::println);
        boolean good = found.isEmpty() & missedRules() == 0;
        System.out.println(good ? "the rules are kept" : "a rule is not kept, or not tested");
        if (!good) {
            System.exit(1);
        }
    }
}
