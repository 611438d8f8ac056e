import com.sun.source.tree.AssertTree;
import com.sun.source.tree.BinaryTree;
import com.sun.source.tree.ClassTree;
import com.sun.source.tree.CompilationUnitTree;
import com.sun.source.tree.ImportTree;
import com.sun.source.tree.LambdaExpressionTree;
import com.sun.source.tree.LiteralTree;
import com.sun.source.tree.MemberReferenceTree;
import com.sun.source.tree.MemberSelectTree;
import com.sun.source.tree.MethodInvocationTree;
import com.sun.source.tree.MethodTree;
import com.sun.source.tree.NewArrayTree;
import com.sun.source.tree.NewClassTree;
import com.sun.source.tree.SynchronizedTree;
import com.sun.source.tree.ThrowTree;
import com.sun.source.tree.Tree;
import com.sun.source.tree.TryTree;
import com.sun.source.tree.VariableTree;
import com.sun.source.util.JavacTask;
import com.sun.source.util.TreeScanner;
import com.sun.source.util.Trees;
import java.io.File;
import java.util.HashMap;
import java.util.Map;
import java.util.Set;
import java.util.TreeSet;
import javax.lang.model.element.Modifier;
import javax.tools.JavaCompiler;
import javax.tools.StandardJavaFileManager;
import javax.tools.ToolProvider;

/** Rules of LANGUAGE.md that can be read off the source. */
public final class LanguageTest extends TreeScanner<Void, Void> {
    private static final Set<String> LIBRARY = Set.of("Math.max", "Math.min", "Math.abs", "System.arraycopy", "Arrays.fill");
    private static final Set<String> OF_TEXTS = Set.of("length", "charAt");
    private final CompilationUnitTree unit;
    private final Trees trees;
    private final Map<String, Set<String>> calls = new HashMap<>();
    private String method = "";
    private int classes = 0;

    private LanguageTest(CompilationUnitTree unit, Trees trees) {
        this.unit = unit;
        this.trees = trees;
    }

    public static void main(String[] args) throws Exception {
        JavaCompiler compiler = ToolProvider.getSystemJavaCompiler();
        try (StandardJavaFileManager files = compiler.getStandardFileManager(null, null, null)) {
            JavacTask task = (JavacTask) compiler.getTask(null, files, null, null, null,
                files.getJavaFileObjects(new File("src/main/java/ValueDays.java")));
            CompilationUnitTree unit = task.parse().iterator().next();
            LanguageTest test = new LanguageTest(unit, Trees.instance(task));
            Check.due("a package line", unit.getPackage() == null ? 0 : 1, 0);
            Check.due("classes in the file", unit.getTypeDecls().size(), 1);
            test.scan(unit, null);
            test.checkCalls();
        }
        Check.finish("LanguageTest");
    }

    private void refuse(String rule, Tree at) {
        long line = unit.getLineMap().getLineNumber(trees.getSourcePositions().getStartPosition(unit, at));
        Check.due(rule + " in line " + line, 1, 0);
    }

    private long lines(Tree at) {
        return unit.getLineMap().getLineNumber(trees.getSourcePositions().getEndPosition(unit, at))
            - unit.getLineMap().getLineNumber(trees.getSourcePositions().getStartPosition(unit, at)) + 1;
    }

    @Override
    public Void visitImport(ImportTree t, Void v) {
        Check.due("import " + t, t.getQualifiedIdentifier().toString().equals("java.util.Arrays") ? 1 : 0, 1);
        return null;
    }

    @Override
    public Void visitClass(ClassTree t, Void v) {
        classes++;
        int fields = 0;
        for (Tree member : t.getMembers()) {
            if (member instanceof VariableTree f) {
                boolean constant = f.getModifiers().getFlags().contains(Modifier.STATIC);
                fields += constant ? 0 : 1;
                if (constant) {
                    Check.due("static " + f.getName(), f.getModifiers().getFlags().contains(Modifier.FINAL) ? 1 : 0, 1);
                    Check.due("type of " + f.getName(), Set.of("int", "long").contains(f.getType().toString()) ? 1 : 0, 1);
                }
            }
        }
        Check.due("more than 20 fields in " + t.getSimpleName(), fields > 20 ? 1 : 0, 0);
        boolean inside = !t.getSimpleName().contentEquals("ValueDays");
        if (inside && !t.getModifiers().getFlags().contains(Modifier.STATIC)) {
            refuse("a class inside that isn't static", t);
        }
        return super.visitClass(t, v);
    }

    @Override
    public Void visitMethod(MethodTree t, Void v) {
        String outer = method;
        method = t.getName().toString();
        Check.due(method + " has more than 60 lines", lines(t) > 60 ? 1 : 0, 0);
        Check.due(method + " has more than 7 parameters", t.getParameters().size() > 7 ? 1 : 0, 0);
        calls.computeIfAbsent(method, k -> new TreeSet<>());
        super.visitMethod(t, v);
        method = outer;
        return null;
    }

    @Override
    public Void visitMethodInvocation(MethodInvocationTree t, Void v) {
        String name = t.getMethodSelect().toString();
        if (t.getMethodSelect() instanceof MemberSelectTree m) {
            String owner = m.getExpression().toString();
            name = m.getIdentifier().toString();
            if (!owner.isEmpty() && Character.isUpperCase(owner.charAt(0)) && !owner.equals("Ledger")) {
                Check.due(owner + "." + name, LIBRARY.contains(owner + "." + name) ? 1 : 0, 1);
            }
        }
        calls.computeIfAbsent(method, k -> new TreeSet<>()).add(name);
        return super.visitMethodInvocation(t, v);
    }

    /** The longest way from a public method down, by names: no name calls itself, and none is more than eight deep. */
    private void checkCalls() {
        Check.due("more than 12 classes", classes > 12 ? 1 : 0, 0);
        for (String name : calls.keySet()) {
            Check.due("calls open below " + name + ": " + way(name, 0), depth(name, 0) > 8 ? 1 : 0, 0);
        }
    }

    private int depth(String name, int open) {
        if (open > 40) {
            return 1000;
        }
        int deepest = 0;
        for (String next : calls.getOrDefault(name, Set.of())) {
            if (calls.containsKey(next)) {
                deepest = Math.max(deepest, depth(next, open + 1));
            } else {
                boolean known = OF_TEXTS.contains(next) || LIBRARY.stream().anyMatch(l -> l.endsWith("." + next));
                Check.due("a call of " + next, known || next.equals("super") ? 1 : 0, 1);
            }
        }
        return deepest + 1;
    }

    private String way(String name, int open) {
        if (open > 40) {
            return "...";
        }
        String deepest = "";
        int most = -1;
        for (String next : calls.getOrDefault(name, Set.of())) {
            if (calls.containsKey(next) && depth(next, open + 1) > most) {
                most = depth(next, open + 1);
                deepest = next;
            }
        }
        return most < 0 ? name : name + " > " + way(deepest, open + 1);
    }

    @Override
    public Void visitNewClass(NewClassTree t, Void v) {
        if (!method.isEmpty() && !method.equals("<init>")) {
            refuse("an object made by a call", t);
        }
        if (t.getClassBody() != null) {
            refuse("a class without a name", t);
        }
        return super.visitNewClass(t, v);
    }

    @Override
    public Void visitNewArray(NewArrayTree t, Void v) {
        if (!method.isEmpty() && !method.equals("<init>")) {
            refuse("an array made by a call", t);
        }
        return super.visitNewArray(t, v);
    }

    @Override
    public Void visitBinary(BinaryTree t, Void v) {
        boolean divides = t.getKind() == Tree.Kind.DIVIDE || t.getKind() == Tree.Kind.REMAINDER;
        if (divides) {
            String by = t.getRightOperand().toString();
            Set<String> tested = Set.of("cycle", "by", "INTEREST_UNIT", "2", "commonDivisor(sum)", "commonDivisor(standingsOf(period))");
            Check.due("a divisor that is 0, perhaps: " + by, tested.contains(by) ? 1 : 0, 1);
        }
        return super.visitBinary(t, v);
    }

    @Override
    public Void visitLiteral(LiteralTree t, Void v) {
        if (t.getValue() instanceof Double || t.getValue() instanceof Float) {
            refuse("a broken number", t);
        }
        return super.visitLiteral(t, v);
    }

    @Override
    public Void visitThrow(ThrowTree t, Void v) {
        refuse("throw", t);
        return super.visitThrow(t, v);
    }

    @Override
    public Void visitTry(TryTree t, Void v) {
        refuse("try", t);
        return super.visitTry(t, v);
    }

    @Override
    public Void visitSynchronized(SynchronizedTree t, Void v) {
        refuse("synchronized", t);
        return super.visitSynchronized(t, v);
    }

    @Override
    public Void visitAssert(AssertTree t, Void v) {
        refuse("assert", t);
        return super.visitAssert(t, v);
    }

    @Override
    public Void visitLambdaExpression(LambdaExpressionTree t, Void v) {
        refuse("lambda", t);
        return super.visitLambdaExpression(t, v);
    }

    @Override
    public Void visitMemberReference(MemberReferenceTree t, Void v) {
        refuse("method reference", t);
        return super.visitMemberReference(t, v);
    }
}
