import com.sun.source.tree.AssertTree;
import com.sun.source.tree.BinaryTree;
import com.sun.source.tree.BlockTree;
import com.sun.source.tree.ClassTree;
import com.sun.source.tree.CompilationUnitTree;
import com.sun.source.tree.CompoundAssignmentTree;
import com.sun.source.tree.DoWhileLoopTree;
import com.sun.source.tree.ExpressionTree;
import com.sun.source.tree.ForLoopTree;
import com.sun.source.tree.LambdaExpressionTree;
import com.sun.source.tree.LiteralTree;
import com.sun.source.tree.MemberReferenceTree;
import com.sun.source.tree.MethodInvocationTree;
import com.sun.source.tree.MethodTree;
import com.sun.source.tree.NewArrayTree;
import com.sun.source.tree.NewClassTree;
import com.sun.source.tree.ParenthesizedTree;
import com.sun.source.tree.SynchronizedTree;
import com.sun.source.tree.ThrowTree;
import com.sun.source.tree.Tree;
import com.sun.source.tree.TryTree;
import com.sun.source.tree.VariableTree;
import com.sun.source.tree.WhileLoopTree;
import com.sun.source.util.JavacTask;
import com.sun.source.util.SourcePositions;
import com.sun.source.util.TreePath;
import com.sun.source.util.TreePathScanner;
import com.sun.source.util.Trees;
import java.io.IOException;
import java.net.URI;
import java.nio.file.Files;
import java.nio.file.Path;
import java.util.ArrayList;
import java.util.HashSet;
import java.util.LinkedHashMap;
import java.util.List;
import java.util.Map;
import java.util.Set;
import javax.lang.model.element.Element;
import javax.lang.model.element.Modifier;
import javax.lang.model.type.ArrayType;
import javax.lang.model.type.TypeKind;
import javax.lang.model.type.TypeMirror;
import javax.tools.JavaFileObject;
import javax.tools.SimpleJavaFileObject;
import javax.tools.ToolProvider;

/**
 * The class keeps to ../shared/LANGUAGE.md, as far as its text can tell: each complaint has the
 * rule's number. Small texts that break one rule each show that the complaints do come.
 * It is stricter than the rules where the class needs less (no try, no lists, no casts of objects).
 */
public final class RuleTest {
    private static final int DEEPEST = 8;
    private static final int LONGEST = 60;
    private static final Map<String, Set<String>> LIBRARY = Map.of(
            "java.lang.String", Set.of("length", "charAt", "isEmpty", "equals", "indexOf", "substring", "toCharArray"),
            "java.lang.StringBuilder", Set.of("<init>", "append", "charAt", "setCharAt", "setLength", "deleteCharAt", "reverse", "length", "toString"),
            "java.lang.System", Set.of("arraycopy"),
            "java.util.Arrays", Set.of("copyOf", "copyOfRange", "fill"),
            "java.lang.Math", Set.of("max", "min", "abs", "floorDiv", "floorMod"),
            "java.lang.Object", Set.of("<init>"));
    private static final Set<String> THROWN = Set.of("IllegalStateException", "IllegalArgumentException", "IndexOutOfBoundsException",
            "ArithmeticException", "UnsupportedOperationException", "NoSuchElementException", "RuntimeException");
    private static int wrong = 0;

    public static void main(String[] args) throws IOException {
        for (String complaint : complaintsOf(Files.readString(Path.of("src/main/java/ThinSeries.java")))) {
            wrong++;
            System.out.println(complaint);
        }
        brokenRules();
        System.out.println(wrong == 0 ? "the rules are kept" : wrong + " rules are broken");
        if (wrong != 0) {
            System.exit(1);
        }
    }

    private static void brokenRules() {
        breaks(1, "public int at(int i) { return i; } private static final class In { private int at() { return 1; } }");
        breaks(1, "int seen = 0;");
        breaks(1, "public static final class In { }");
        breaks(2, "Runnable r() { return () -> { }; }");
        breaks(2, "private void f() { class Local { } }");
        breaks(3, "private double d = 0;");
        breaks(3, "private int[][][] d = null;");
        breaks(3, "private java.util.Map<Integer, Integer> d = null;");
        breaks(4, "private int f(int a) { return Math.addExact(a, 1); }");
        breaks(4, "private int f(String a) { return a.hashCode(); }");
        breaks(4, "private String f() { return \"\\u00e9\"; }");
        breaks(5, "private static int x = 0;");
        breaks(5, "private static final int[] X = new int[3];");
        breaks(5, "static { }");
        breaks(6, "private void f(RuntimeException e) { throw e; }");
        breaks(6, "private void f(String s) { throw new IllegalStateException(s); }");
        breaks(6, "private ThinSeries(int i) { throw new IllegalStateException(); }");
        breaks(6, "private void f() { try { f(); } catch (RuntimeException e) { } }");
        breaks(6, "private void f() { assert false; }");
        breaks(6, "private boolean f(String a, String b) { return a == b; }");
        breaks(7, "private int f(int a, int b) { return a / b; }");
        breaks(7, "private int f(int a, int b) { a %= b; return a; }");
        breaks(7, "private int f(int a, int b) { return Math.floorMod(a, b); }");
        breaks(9, "private void f() { while (true) { } }");
        breaks(9, "private void f() { for (;;) { } }");
        breaks(10, "private String f(int i) { return \"a\" + i; }");
        breaks(11, "private void f(int a, int b, int c, int d, int e, int f, int g, int h) { }");
        breaks(11, "private void f() { " + "\n".repeat(LONGEST) + " }");
        breaks(11, "private int a, b, c, d, e, f, g, h, i, j, k, l, m, n, o, p, q, r, s, t, u;");
        breaks(11, "private void a() { b(); } private void b() { c(); } private void c() { d(); } private void d() { e(); }"
                + "private void e() { f(); } private void f() { g(); } private void g() { h(); } private void h() { i(); } private void i() { }");
    }

    private static void breaks(int rule, String members) {
        List<String> complaints = complaintsOf("public final class ThinSeries { " + members + " }");
        if (complaints.stream().noneMatch(c -> c.startsWith("rule " + rule + ","))) {
            wrong++;
            System.out.println("no complaint by rule " + rule + " of: " + members + " but " + complaints);
        }
    }

    private static List<String> complaintsOf(String text) {
        try {
            JavaFileObject file = new SimpleJavaFileObject(URI.create("string:///ThinSeries.java"), JavaFileObject.Kind.SOURCE) {
                @Override
                public CharSequence getCharContent(boolean ignoreErrors) {
                    return text;
                }
            };
            JavacTask task = (JavacTask) ToolProvider.getSystemJavaCompiler().getTask(null, null, d -> { }, List.of("-proc:none"), null, List.of(file));
            CompilationUnitTree unit = task.parse().iterator().next();
            task.analyze();
            Scanner scanner = new Scanner(unit, Trees.instance(task));
            scanner.scan(unit, null);
            scanner.lookAtWhole();
            return scanner.complaints;
        } catch (IOException e) {
            return List.of("can't be read: " + e);
        }
    }

    private static final class Scanner extends TreePathScanner<Void, Void> {
        final CompilationUnitTree unit;
        final Trees trees;
        final List<String> complaints = new ArrayList<>();
        final Set<String> publicNames = new HashSet<>();
        final Map<String, MethodTree> methods = new LinkedHashMap<>();
        final Map<String, Set<String>> calls = new LinkedHashMap<>();
        int classes = 0;

        Scanner(CompilationUnitTree unit, Trees trees) {
            this.unit = unit;
            this.trees = trees;
        }

        void complain(int rule, Tree where, String what) {
            SourcePositions positions = trees.getSourcePositions();
            long line = unit.getLineMap().getLineNumber(positions.getStartPosition(unit, where));
            complaints.add("rule " + rule + ", line " + line + ": " + what);
        }

        void need(boolean holds, int rule, Tree where, String what) {
            if (!holds) {
                complain(rule, where, what);
            }
        }

        void lookAtWhole() {
            need(unit.getPackageName() == null && unit.getTypeDecls().size() == 1, 1, unit, "one class, no package");
            need(classes <= 12, 11, unit, "too many classes");
            for (Map.Entry<String, MethodTree> e : methods.entrySet()) {
                MethodTree m = e.getValue();
                boolean shown = m.getModifiers().getFlags().contains(Modifier.PUBLIC);
                need(shown || !publicNames.contains(m.getName().toString()), 1, m, m.getName() + " has the name of a public method");
            }
            for (String from : calls.keySet()) {
                List<String> chain = longestFrom(from, new ArrayList<>());
                need(chain.size() <= DEEPEST, 11, methods.getOrDefault(from, null) == null ? unit : methods.get(from), "too deep: " + chain);
            }
        }

        /** Calls that come back to a method that stands open are recursion, which rule 8 bounds. */
        List<String> longestFrom(String from, List<String> open) {
            List<String> longest = List.of();
            open.add(from);
            for (String to : calls.getOrDefault(from, Set.of())) {
                if (!open.contains(to)) {
                    List<String> chain = longestFrom(to, open);
                    longest = chain.size() > longest.size() ? chain : longest;
                }
            }
            open.remove(open.size() - 1);
            List<String> whole = new ArrayList<>(List.of(from));
            whole.addAll(longest);
            return whole;
        }

        boolean isInside(Tree.Kind kind) {
            for (TreePath p = getCurrentPath().getParentPath(); p != null; p = p.getParentPath()) {
                if (p.getLeaf().getKind() == kind) {
                    return true;
                }
                if (p.getLeaf() instanceof MethodTree) {
                    return false;
                }
            }
            return false;
        }

        TypeMirror typeOf(Tree t) {
            return trees.getTypeMirror(new TreePath(getCurrentPath(), t));
        }

        boolean isText(Tree t) {
            TypeMirror type = typeOf(t);
            return type != null && type.toString().equals("java.lang.String");
        }

        @Override
        public Void visitClass(ClassTree c, Void v) {
            classes++;
            Set<Modifier> flags = c.getModifiers().getFlags();
            Tree parent = getCurrentPath().getParentPath().getLeaf();
            if (parent instanceof CompilationUnitTree) {
                need(flags.contains(Modifier.PUBLIC) && flags.contains(Modifier.FINAL), 1, c, "public and final");
                lookAtFace(c);
            } else {
                need(parent instanceof ClassTree, 2, c, "a class within a method");
                need(flags.contains(Modifier.STATIC) && !flags.contains(Modifier.PUBLIC) && !flags.contains(Modifier.PROTECTED), 1, c, "static, not public");
            }
            int fields = 0;
            for (Tree member : c.getMembers()) {
                need(!(member instanceof BlockTree), 5, member, "a block that initialises");
                if (member instanceof VariableTree) {
                    fields += ((VariableTree) member).getModifiers().getFlags().contains(Modifier.STATIC) ? 0 : 1;
                }
            }
            need(fields <= 20, 11, c, fields + " fields");
            return super.visitClass(c, v);
        }

        void lookAtFace(ClassTree c) {
            for (Tree member : c.getMembers()) {
                if (member instanceof MethodTree) {
                    MethodTree m = (MethodTree) member;
                    Set<Modifier> flags = m.getModifiers().getFlags();
                    need(flags.contains(Modifier.PUBLIC) != flags.contains(Modifier.PRIVATE), 1, m, m.getName() + " is neither public nor private");
                    if (flags.contains(Modifier.PUBLIC)) {
                        publicNames.add(m.getName().toString());
                    }
                } else if (member instanceof VariableTree) {
                    VariableTree f = (VariableTree) member;
                    Set<Modifier> flags = f.getModifiers().getFlags();
                    boolean constant = flags.contains(Modifier.PUBLIC) && flags.contains(Modifier.STATIC);
                    need(flags.contains(Modifier.PRIVATE) || constant, 1, f, f.getName() + " can be seen");
                }
            }
        }

        @Override
        public Void visitMethod(MethodTree m, Void v) {
            Element e = trees.getElement(getCurrentPath());
            String name = nameOf(e);
            boolean isConstructor = m.getReturnType() == null;
            if (!isConstructor) {
                methods.put(name, m);
            }
            calls.putIfAbsent(name, new HashSet<>());
            need(m.getParameters().size() <= 7, 11, m, "too many parameters");
            SourcePositions positions = trees.getSourcePositions();
            long first = unit.getLineMap().getLineNumber(Math.max(0, positions.getStartPosition(unit, m)));
            long last = unit.getLineMap().getLineNumber(Math.max(0, positions.getEndPosition(unit, m)));
            need(last - first < LONGEST, 11, m, m.getName() + " is too long");
            for (String odd : new String[] {"equals", "hashCode", "toString"}) {
                need(!m.getName().contentEquals(odd), 6, m, "no " + odd);
            }
            return super.visitMethod(m, v);
        }

        String nameOf(Element e) {
            return e == null ? "?" : e.getEnclosingElement() + "." + e;
        }

        @Override
        public Void visitVariable(VariableTree f, Void v) {
            TypeMirror type = trees.getTypeMirror(getCurrentPath());
            need(isAllowed(type, 0), 3, f, f.getName() + " is of " + type);
            Tree parent = getCurrentPath().getParentPath().getLeaf();
            if (parent instanceof ClassTree && f.getModifiers().getFlags().contains(Modifier.STATIC)) {
                need(f.getModifiers().getFlags().contains(Modifier.FINAL), 5, f, f.getName() + " is static, but not final");
                boolean isRow = type != null && type.getKind() == TypeKind.ARRAY;
                boolean written = f.getInitializer() instanceof NewArrayTree && ((NewArrayTree) f.getInitializer()).getInitializers() != null;
                need(!isRow || written, 5, f, f.getName() + " isn't written out");
            }
            return super.visitVariable(f, v);
        }

        boolean isAllowed(TypeMirror type, int rows) {
            if (type == null || type.getKind() == TypeKind.DOUBLE || type.getKind() == TypeKind.FLOAT) {
                return false;
            }
            if (type.getKind() == TypeKind.ARRAY) {
                TypeMirror part = ((ArrayType) type).getComponentType();
                return rows < 2 && isAllowed(part, rows + 1);
            }
            String name = type.toString();
            return type.getKind().isPrimitive() || name.startsWith("ThinSeries.")
                    || name.equals("java.lang.String") || name.equals("java.lang.StringBuilder");
        }

        @Override
        public Void visitMethodInvocation(MethodInvocationTree call, Void v) {
            noteCall(call, trees.getElement(new TreePath(getCurrentPath(), call.getMethodSelect())));
            return super.visitMethodInvocation(call, v);
        }

        @Override
        public Void visitNewClass(NewClassTree made, Void v) {
            need(made.getClassBody() == null, 2, made, "a class without a name");
            Tree parent = getCurrentPath().getParentPath().getLeaf();
            if (!(parent instanceof ThrowTree)) {
                noteCall(made, trees.getElement(getCurrentPath()));
            }
            return super.visitNewClass(made, v);
        }

        void noteCall(Tree where, Element called) {
            if (called == null) {
                complain(4, where, "what is called isn't known");
                return;
            }
            String owner = called.getEnclosingElement().toString();
            String name = called.getSimpleName().toString();
            if (!owner.equals("ThinSeries") && !owner.startsWith("ThinSeries.")) {
                need(LIBRARY.getOrDefault(owner, Set.of()).contains(name), 4, where, owner + "." + name);
            }
            if (name.startsWith("floor")) {
                need(isInside(Tree.Kind.CONDITIONAL_EXPRESSION) || isInside(Tree.Kind.IF), 7, where, name + " without a look at the divisor");
            }
            for (TreePath p = getCurrentPath(); p != null; p = p.getParentPath()) {
                if (p.getLeaf() instanceof MethodTree) {
                    calls.computeIfAbsent(nameOf(trees.getElement(p)), k -> new HashSet<>()).add(nameOf(called));
                    break;
                }
            }
        }

        @Override
        public Void visitBinary(BinaryTree b, Void v) {
            Tree.Kind kind = b.getKind();
            if (kind == Tree.Kind.DIVIDE || kind == Tree.Kind.REMAINDER) {
                needDivisor(b, b.getRightOperand());
            }
            if (kind == Tree.Kind.PLUS) {
                need(!isText(b.getLeftOperand()) && !isText(b.getRightOperand()), 10, b, "texts are joined by +");
            }
            if (kind == Tree.Kind.EQUAL_TO || kind == Tree.Kind.NOT_EQUAL_TO) {
                need(!isText(b.getLeftOperand()) || !isText(b.getRightOperand()), 6, b, "== between texts");
            }
            return super.visitBinary(b, v);
        }

        @Override
        public Void visitCompoundAssignment(CompoundAssignmentTree a, Void v) {
            if (a.getKind() == Tree.Kind.DIVIDE_ASSIGNMENT || a.getKind() == Tree.Kind.REMAINDER_ASSIGNMENT) {
                needDivisor(a, a.getExpression());
            }
            need(a.getKind() != Tree.Kind.PLUS_ASSIGNMENT || !isText(a.getVariable()), 10, a, "texts are joined by +=");
            return super.visitCompoundAssignment(a, v);
        }

        void needDivisor(Tree where, ExpressionTree by) {
            boolean written = by instanceof LiteralTree && !"0".equals(String.valueOf(((LiteralTree) by).getValue()));
            need(written, 7, where, "a divisor that isn't a number written here");
        }

        @Override
        public Void visitLiteral(LiteralTree l, Void v) {
            if (l.getValue() instanceof String) {
                need(((String) l.getValue()).chars().allMatch(c -> c >= 1 && c <= 127), 4, l, "a sign above 127");
            }
            return super.visitLiteral(l, v);
        }

        @Override
        public Void visitThrow(ThrowTree t, Void v) {
            boolean sound = false;
            if (t.getExpression() instanceof NewClassTree) {
                NewClassTree made = (NewClassTree) t.getExpression();
                sound = THROWN.contains(made.getIdentifier().toString())
                        && made.getArguments().stream().allMatch(a -> a instanceof LiteralTree);
            }
            need(sound, 6, t, "not 'throw new' one of the rule's with a written text");
            for (TreePath p = getCurrentPath(); p != null; p = p.getParentPath()) {
                if (p.getLeaf() instanceof MethodTree) {
                    need(((MethodTree) p.getLeaf()).getReturnType() != null, 6, t, "a throw in a constructor");
                    break;
                }
            }
            return super.visitThrow(t, v);
        }

        void needEnd(Tree loop, ExpressionTree condition) {
            ExpressionTree c = condition instanceof ParenthesizedTree ? ((ParenthesizedTree) condition).getExpression() : condition;
            need(c != null && !(c instanceof LiteralTree), 9, loop, "a loop without an end");
        }

        @Override
        public Void visitWhileLoop(WhileLoopTree l, Void v) {
            needEnd(l, l.getCondition());
            return super.visitWhileLoop(l, v);
        }

        @Override
        public Void visitDoWhileLoop(DoWhileLoopTree l, Void v) {
            needEnd(l, l.getCondition());
            return super.visitDoWhileLoop(l, v);
        }

        @Override
        public Void visitForLoop(ForLoopTree l, Void v) {
            needEnd(l, l.getCondition());
            return super.visitForLoop(l, v);
        }

        @Override
        public Void visitTry(TryTree t, Void v) {
            complain(6, t, "try");
            return super.visitTry(t, v);
        }

        @Override
        public Void visitAssert(AssertTree t, Void v) {
            complain(6, t, "assert");
            return super.visitAssert(t, v);
        }

        @Override
        public Void visitSynchronized(SynchronizedTree t, Void v) {
            complain(6, t, "synchronized");
            return super.visitSynchronized(t, v);
        }

        @Override
        public Void visitLambdaExpression(LambdaExpressionTree t, Void v) {
            complain(2, t, "a lambda");
            return super.visitLambdaExpression(t, v);
        }

        @Override
        public Void visitMemberReference(MemberReferenceTree t, Void v) {
            complain(2, t, "a method reference");
            return super.visitMemberReference(t, v);
        }
    }
}
