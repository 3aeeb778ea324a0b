import com.sun.source.tree.AssertTree;
import com.sun.source.tree.BinaryTree;
import com.sun.source.tree.BlockTree;
import com.sun.source.tree.CatchTree;
import com.sun.source.tree.ClassTree;
import com.sun.source.tree.CompilationUnitTree;
import com.sun.source.tree.CompoundAssignmentTree;
import com.sun.source.tree.DoWhileLoopTree;
import com.sun.source.tree.ExpressionTree;
import com.sun.source.tree.ForLoopTree;
import com.sun.source.tree.ImportTree;
import com.sun.source.tree.LambdaExpressionTree;
import com.sun.source.tree.LiteralTree;
import com.sun.source.tree.MemberReferenceTree;
import com.sun.source.tree.MethodInvocationTree;
import com.sun.source.tree.MethodTree;
import com.sun.source.tree.NewArrayTree;
import com.sun.source.tree.NewClassTree;
import com.sun.source.tree.SynchronizedTree;
import com.sun.source.tree.ThrowTree;
import com.sun.source.tree.Tree;
import com.sun.source.tree.TryTree;
import com.sun.source.tree.TypeCastTree;
import com.sun.source.tree.VariableTree;
import com.sun.source.tree.WhileLoopTree;
import com.sun.source.util.JavacTask;
import com.sun.source.util.TreePathScanner;
import com.sun.source.util.Trees;
import java.io.IOException;
import java.lang.reflect.Constructor;
import java.lang.reflect.Field;
import java.lang.reflect.Method;
import java.lang.reflect.Modifier;
import java.nio.file.Files;
import java.nio.file.Path;
import java.util.ArrayList;
import java.util.Arrays;
import java.util.HashMap;
import java.util.List;
import java.util.Map;
import java.util.Set;
import java.util.TreeMap;
import java.util.TreeSet;
import java.util.regex.Matcher;
import java.util.regex.Pattern;
import java.util.stream.Collectors;
import javax.lang.model.element.Element;
import javax.lang.model.element.ElementKind;
import javax.lang.model.element.ExecutableElement;
import javax.lang.model.type.ArrayType;
import javax.lang.model.type.TypeKind;
import javax.lang.model.type.TypeMirror;
import javax.tools.JavaCompiler;
import javax.tools.StandardJavaFileManager;
import javax.tools.ToolProvider;

/** The rules of LANGUAGE.md that can be read off the source as the compiler sees it, and off the compiled class. */
public final class LanguageTest {
    private static final Path SOURCE = Path.of("src/main/java/PlantedDoubts.java");
    private static final Path DOCUMENT = Path.of("../shared/DOC.md");
    // What rule 4 lists and the class uses; a new one is put here only after a look at that rule.
    private static final Set<String> LIBRARY = Set.of("String.length", "String.charAt", "String.indexOf", "Integer.bitCount", "Math.min", "Math.max", "System.arraycopy");
    private static final int MOST_PARAMETERS = 7;
    private static final int MOST_METHOD_LINES = 60;
    private static final int MOST_DEEP = 8;
    private static final int MOST_CLASSES = 12;
    private static final int MOST_FIELDS = 20;
    private static int wrong = 0;

    private static void must(boolean is, String what) { if (!is) { wrong++; System.out.println(what); } }

    public static void main(String[] args) throws IOException {
        face();
        classes();
        signs(Files.readAllLines(SOURCE));
        source();
        System.out.println(wrong == 0 ? "the language is kept" : wrong + " breaches of the language");
        if (wrong != 0) System.exit(1);
    }

    /** The face of the document, line by line, against what the compiled class has. */
    private static void face() throws IOException {
        TreeSet<String> want = new TreeSet<>();
        Matcher m = Pattern.compile("^    public (.*);$", Pattern.MULTILINE).matcher(Files.readString(DOCUMENT));
        while (m.find()) want.add(m.group(1).replaceAll(" = .*", "").replaceAll("(int|boolean) \\w+(?=[,)])", "$1"));
        must(want.size() == 34, "the document's face has " + want.size() + " lines: read it again");
        TreeSet<String> got = new TreeSet<>();
        Class<?> c = PlantedDoubts.class;
        must(Modifier.isPublic(c.getModifiers()) && Modifier.isFinal(c.getModifiers()), "rule 1: public and final");
        for (Field f : c.getDeclaredFields()) open(got, f.getModifiers(), f.isSynthetic(), "static final " + f.getType().getSimpleName() + " " + f.getName());
        for (Method f : c.getDeclaredMethods()) open(got, f.getModifiers(), f.isSynthetic(), f.getReturnType().getSimpleName() + " " + f.getName() + parameters(f.getParameterTypes()));
        for (Constructor<?> f : c.getDeclaredConstructors()) open(got, f.getModifiers(), f.isSynthetic(), "PlantedDoubts" + parameters(f.getParameterTypes()));
        must(got.equals(want), "rule 1: the face is " + got + ", the document's is " + want);
        Set<String> names = Arrays.stream(c.getDeclaredMethods()).filter(f -> Modifier.isPublic(f.getModifiers())).map(Method::getName).collect(Collectors.toSet());
        for (Class<?> k : all()) {
            for (Method f : k.getDeclaredMethods()) must(!Modifier.isPrivate(f.getModifiers()) || !names.contains(f.getName()), "rule 1: private " + f);
        }
    }
    private static void open(Set<String> got, int modifiers, boolean synthetic, String what) {
        if (synthetic) return;
        must(Modifier.isPublic(modifiers) || Modifier.isPrivate(modifiers), "rule 1: " + what + " is neither public nor private");
        if (Modifier.isPublic(modifiers)) got.add(what);
    }
    private static String parameters(Class<?>[] types) { return Arrays.stream(types).map(Class::getSimpleName).collect(Collectors.joining(", ", "(", ")")); }

    private static List<Class<?>> all() {
        List<Class<?>> all = new ArrayList<>(Arrays.asList(PlantedDoubts.class.getDeclaredClasses()));
        all.add(PlantedDoubts.class);
        return all;
    }

    private static void classes() {
        must(all().size() <= MOST_CLASSES, "rule 11: " + all().size() + " classes");
        for (Class<?> k : all()) {
            boolean inside = k != PlantedDoubts.class;
            must(!inside || Modifier.isStatic(k.getModifiers()) && !Modifier.isPublic(k.getModifiers()) && !Modifier.isProtected(k.getModifiers()), "rules 1 and 2: " + k);
            long fields = Arrays.stream(k.getDeclaredFields()).filter(f -> !Modifier.isStatic(f.getModifiers())).count();
            must(fields <= MOST_FIELDS, "rule 11: " + k + " has " + fields + " fields");
            for (Field f : k.getDeclaredFields()) {
                if (!Modifier.isStatic(f.getModifiers()) || f.isSynthetic()) continue;
                boolean plain = Set.of("int", "long", "boolean", "char", "String", "int[]", "long[]", "char[]", "byte[]").contains(f.getType().getSimpleName());
                must(Modifier.isFinal(f.getModifiers()) && plain, "rule 5: " + f);
            }
        }
    }

    private static void signs(List<String> lines) {
        for (int i = 0; i < lines.size(); i++) must(lines.get(i).chars().allMatch(c -> c >= 32 && c < 127), "rule 4, line " + (i + 1));
    }

    private static void source() throws IOException {
        JavaCompiler javac = ToolProvider.getSystemJavaCompiler();
        try (StandardJavaFileManager files = javac.getStandardFileManager(null, null, null)) {
            JavacTask task = (JavacTask) javac.getTask(null, files, null, List.of("-proc:none"), null, files.getJavaFileObjects(SOURCE));
            CompilationUnitTree unit = task.parse().iterator().next();
            task.analyze();
            Reader reader = new Reader(Trees.instance(task), unit);
            reader.scan(unit, null);
            must(reader.methods > 100, "too few methods were read: " + reader.methods);
            deep(reader.calls, reader.parameters);
        }
    }

    /** What can stand in no line of the source, method by method. */
    private static final class Reader extends TreePathScanner<Void, Void> {
        final Trees trees;
        final CompilationUnitTree unit;
        final Map<String, Set<String>> calls = new TreeMap<>();
        final Map<String, List<String>> parameters = new HashMap<>();
        int methods = 0;
        String method = "";

        Reader(Trees trees, CompilationUnitTree unit) { this.trees = trees; this.unit = unit; }

        long line(Tree t) { return unit.getLineMap().getLineNumber(trees.getSourcePositions().getStartPosition(unit, t)); }
        long lastLine(Tree t) { return unit.getLineMap().getLineNumber(trees.getSourcePositions().getEndPosition(unit, t)); }
        void no(int rule, Tree t) { must(false, "rule " + rule + ", line " + line(t) + ": " + t.toString().lines().findFirst().orElse("")); }
        TypeMirror type(ExpressionTree t) { return trees.getTypeMirror(new com.sun.source.util.TreePath(getCurrentPath(), t)); }
        boolean isText(ExpressionTree t) { TypeMirror m = type(t); return m != null && m.toString().equals("java.lang.String"); }

        @Override public Void visitImport(ImportTree t, Void v) { no(4, t); return super.visitImport(t, v); }
        @Override public Void visitThrow(ThrowTree t, Void v) { no(6, t); return super.visitThrow(t, v); }
        @Override public Void visitTry(TryTree t, Void v) { no(6, t); return super.visitTry(t, v); }
        @Override public Void visitCatch(CatchTree t, Void v) { no(6, t); return super.visitCatch(t, v); }
        @Override public Void visitAssert(AssertTree t, Void v) { no(6, t); return super.visitAssert(t, v); }
        @Override public Void visitSynchronized(SynchronizedTree t, Void v) { no(6, t); return super.visitSynchronized(t, v); }
        @Override public Void visitLambdaExpression(LambdaExpressionTree t, Void v) { no(2, t); return super.visitLambdaExpression(t, v); }
        @Override public Void visitMemberReference(MemberReferenceTree t, Void v) { no(2, t); return super.visitMemberReference(t, v); }
        @Override public Void visitDoWhileLoop(DoWhileLoopTree t, Void v) { ends(t, t.getCondition()); return super.visitDoWhileLoop(t, v); }
        @Override public Void visitWhileLoop(WhileLoopTree t, Void v) { ends(t, t.getCondition()); return super.visitWhileLoop(t, v); }
        @Override public Void visitForLoop(ForLoopTree t, Void v) { ends(t, t.getCondition()); return super.visitForLoop(t, v); }
        /** The bound of a loop stands in its condition, beside whatever else ends it. */
        void ends(Tree loop, ExpressionTree condition) {
            if (condition == null || !condition.toString().matches("(?s).*[<>].*")) no(9, loop);
        }

        @Override public Void visitClass(ClassTree t, Void v) {
            Tree around = getCurrentPath().getParentPath().getLeaf();
            if (!(around instanceof ClassTree) && !(around instanceof CompilationUnitTree)) no(2, t);
            for (Tree member : t.getMembers()) if (member instanceof BlockTree) no(5, member);
            return super.visitClass(t, v);
        }

        @Override public Void visitMethod(MethodTree t, Void v) {
            String around = method;
            method = name((ExecutableElement) trees.getElement(getCurrentPath()));
            methods++;
            parameters.put(method, t.getParameters().stream().map(p -> p.getName().toString()).toList());
            calls.putIfAbsent(method, new TreeSet<>());
            must(t.getParameters().size() <= MOST_PARAMETERS, "rule 11: " + method + " takes " + t.getParameters().size());
            must(t.getThrows().isEmpty(), "rule 6: " + method + " throws");
            // What the compiler adds has no lines of its own.
            if (trees.getSourcePositions().getEndPosition(unit, t) >= 0) {
                must(lastLine(t) - line(t) < MOST_METHOD_LINES, "rule 11: " + method + " has " + (lastLine(t) - line(t) + 1) + " lines");
            }
            super.visitMethod(t, v);
            method = around;
            return null;
        }
        static String name(ExecutableElement e) { return e.getEnclosingElement().getSimpleName() + "." + e.getSimpleName() + e.getParameters().size(); }

        @Override public Void visitMethodInvocation(MethodInvocationTree t, Void v) {
            ExecutableElement called = (ExecutableElement) trees.getElement(new com.sun.source.util.TreePath(getCurrentPath(), t.getMethodSelect()));
            String owner = called.getEnclosingElement().toString();
            if (owner.startsWith("PlantedDoubts")) {
                calls.get(method).add(name(called));
            } else if (called.getKind() != ElementKind.CONSTRUCTOR) {
                must(owner.startsWith("java.lang.") && LIBRARY.contains(owner.substring(10) + "." + called.getSimpleName()), "rule 4, line " + line(t) + ": " + t);
            }
            return super.visitMethodInvocation(t, v);
        }

        @Override public Void visitNewClass(NewClassTree t, Void v) {
            Element made = trees.getElement(getCurrentPath());
            must(made.getEnclosingElement().toString().startsWith("PlantedDoubts"), "rule 4, line " + line(t) + ": " + t);
            if (t.getClassBody() != null) no(2, t);
            made(t);
            if (!method.isEmpty()) calls.get(method).add(name((ExecutableElement) made));
            return super.visitNewClass(t, v);
        }
        @Override public Void visitNewArray(NewArrayTree t, Void v) { made(t); return super.visitNewArray(t, v); }
        /** All objects are made by constructors, so that no run of calls can fill the room. */
        void made(Tree t) { must(method.isEmpty() || method.contains("<init>"), "rule 12, line " + line(t) + ": made outside a constructor: " + t); }

        @Override public Void visitVariable(VariableTree t, Void v) {
            TypeMirror m = trees.getTypeMirror(new com.sun.source.util.TreePath(getCurrentPath(), t.getType()));
            must(allowed(m), "rule 3, line " + line(t) + ": " + t);
            return super.visitVariable(t, v);
        }
        static boolean allowed(TypeMirror m) {
            if (m instanceof ArrayType a) return a.getComponentType().getKind() != TypeKind.ARRAY && allowed(a.getComponentType());
            if (m.getKind().isPrimitive()) return m.getKind() != TypeKind.DOUBLE && m.getKind() != TypeKind.FLOAT;
            return m.toString().equals("java.lang.String") || m.toString().startsWith("PlantedDoubts");
        }
        @Override public Void visitTypeCast(TypeCastTree t, Void v) {
            must(type(t).getKind().isPrimitive(), "rule 6, line " + line(t) + ": " + t);
            return super.visitTypeCast(t, v);
        }
        @Override public Void visitBinary(BinaryTree t, Void v) {
            if (isText(t.getLeftOperand()) || isText(t.getRightOperand())) no(t.getKind() == Tree.Kind.PLUS ? 10 : 6, t);
            if (t.getKind() == Tree.Kind.DIVIDE || t.getKind() == Tree.Kind.REMAINDER) divisor(t);
            return super.visitBinary(t, v);
        }
        /** A divisor is a number or a constant of the class, or the same line has tested it. */
        void divisor(BinaryTree t) {
            ExpressionTree by = t.getRightOperand();
            boolean constant = by instanceof LiteralTree || by.toString().matches("[A-Z_]+");
            Tree line = getCurrentPath().getParentPath().getLeaf();
            if (line instanceof com.sun.source.tree.ParenthesizedTree) line = getCurrentPath().getParentPath().getParentPath().getLeaf();
            boolean tested = line instanceof com.sun.source.tree.ConditionalExpressionTree c && c.getCondition().toString().contains(by.toString());
            must(constant || tested, "rule 7, line " + line(t) + ": " + t);
        }
        @Override public Void visitCompoundAssignment(CompoundAssignmentTree t, Void v) {
            if (isText(t.getVariable())) no(10, t);
            must(t.getKind() != Tree.Kind.DIVIDE_ASSIGNMENT && t.getKind() != Tree.Kind.REMAINDER_ASSIGNMENT, "rule 7, line " + line(t) + ": " + t);
            return super.visitCompoundAssignment(t, v);
        }
    }

    /** Rule 8: who comes back to itself carries its depth. Rule 11: all other calls go at most eight deep. */
    private static void deep(Map<String, Set<String>> calls, Map<String, List<String>> parameters) {
        for (String m : calls.keySet()) {
            if (reaches(calls, m, m, new TreeSet<>())) must(parameters.get(m).contains("depth"), "rule 8: " + m + " comes back to itself without its depth");
            List<String> way = longest(calls, m, new ArrayList<>());
            must(way.size() <= MOST_DEEP, "rule 11: " + way.size() + " deep: " + way);
        }
    }
    private static boolean reaches(Map<String, Set<String>> calls, String from, String to, Set<String> seen) {
        for (String m : calls.getOrDefault(from, Set.of())) {
            if (m.equals(to) || seen.add(m) && reaches(calls, m, to, seen)) return true;
        }
        return false;
    }
    private static List<String> longest(Map<String, Set<String>> calls, String m, List<String> above) {
        List<String> best = new ArrayList<>();
        above.add(m);
        for (String next : calls.getOrDefault(m, Set.of())) {
            if (above.contains(next)) continue;
            List<String> way = longest(calls, next, above);
            if (way.size() > best.size()) best = way;
        }
        above.remove(above.size() - 1);
        List<String> all = new ArrayList<>(List.of(m));
        all.addAll(best);
        return all;
    }
}
