import com.sun.source.tree.AssertTree;
import com.sun.source.tree.ClassTree;
import com.sun.source.tree.CompilationUnitTree;
import com.sun.source.tree.IdentifierTree;
import com.sun.source.tree.ImportTree;
import com.sun.source.tree.LambdaExpressionTree;
import com.sun.source.tree.LiteralTree;
import com.sun.source.tree.MemberReferenceTree;
import com.sun.source.tree.MemberSelectTree;
import com.sun.source.tree.MethodInvocationTree;
import com.sun.source.tree.MethodTree;
import com.sun.source.tree.NewClassTree;
import com.sun.source.tree.PrimitiveTypeTree;
import com.sun.source.tree.SynchronizedTree;
import com.sun.source.tree.ThrowTree;
import com.sun.source.tree.Tree;
import com.sun.source.tree.TryTree;
import com.sun.source.util.JavacTask;
import com.sun.source.util.SourcePositions;
import com.sun.source.util.TreeScanner;
import com.sun.source.util.Trees;
import java.util.ArrayList;
import java.util.List;
import java.util.Map;
import java.util.Set;
import java.util.TreeMap;
import java.util.TreeSet;
import javax.tools.JavaCompiler;
import javax.tools.StandardJavaFileManager;
import javax.tools.ToolProvider;

/** What LANGUAGE.md rules out and can be seen in the source: the narrow part that the class uses. */
final class LanguageTests extends TreeScanner<Void, Void> {
    private static final Set<String> LIBRARY = Set.of("System.arraycopy", "Math.max", "Math.min");
    private static final Set<String> MADE = Set.of("State", "OrderText", "IllegalStateException",
            "IllegalArgumentException", "IndexOutOfBoundsException");
    private static final int LONGEST_METHOD = 60;
    private static final int DEEPEST_CALL = 8;
    private static final int MOST_PARAMETERS = 7;
    private static final int MOST_CLASSES = 12;

    private final CompilationUnitTree unit;
    private final SourcePositions positions;
    private final Map<String, Set<String>> calls = new TreeMap<>();
    private String method = "";
    private int classes = 0;

    private LanguageTests(CompilationUnitTree unit, SourcePositions positions) {
        this.unit = unit;
        this.positions = positions;
    }

    static void runAll(String file) throws Exception {
        JavaCompiler compiler = ToolProvider.getSystemJavaCompiler();
        try (StandardJavaFileManager files = compiler.getStandardFileManager(null, null, null)) {
            JavacTask task = (JavacTask) compiler.getTask(null, files, null, null, null,
                    files.getJavaFileObjects(file));
            CompilationUnitTree unit = task.parse().iterator().next();
            Check.holds("no package line", unit.getPackageName() == null);
            LanguageTests reader =
                    new LanguageTests(unit, Trees.instance(task).getSourcePositions());
            reader.scan(unit, null);
            reader.callsAreShallow();
            Check.holds("at most twelve classes", reader.classes <= MOST_CLASSES);
        }
    }

    private void never(String what, Tree tree) {
        long line = unit.getLineMap().getLineNumber(positions.getStartPosition(unit, tree));
        Check.holds("line " + line + ": " + what, false);
    }

    private void callsAreShallow() {
        for (String name : calls.keySet()) {
            Check.holds(name + " is at most eight calls deep", depth(name, List.of()) <= DEEPEST_CALL);
        }
    }

    private int depth(String name, List<String> open) {
        Check.holds(name + " is no recursion", !open.contains(name));
        int below = 0;
        if (!open.contains(name)) {
            List<String> here = new ArrayList<>(open);
            here.add(name);
            for (String called : calls.getOrDefault(name, Set.of())) {
                below = Math.max(below, calls.containsKey(called) ? depth(called, here) : 0);
            }
        }
        return below + 1;
    }

    @Override
    public Void visitMethod(MethodTree tree, Void none) {
        String name = tree.getName().toString();
        long first = unit.getLineMap().getLineNumber(positions.getStartPosition(unit, tree));
        long last = unit.getLineMap().getLineNumber(positions.getEndPosition(unit, tree));
        Check.holds(name + " is short", last - first < LONGEST_METHOD);
        Check.holds(name + " has few parameters", tree.getParameters().size() <= MOST_PARAMETERS);
        if (!name.equals("<init>")) {
            Check.holds(name + " is a name once", !calls.containsKey(name));
            calls.put(name, new TreeSet<>());
        }
        method = name;
        return super.visitMethod(tree, none);
    }

    @Override
    public Void visitMethodInvocation(MethodInvocationTree tree, Void none) {
        String full = tree.getMethodSelect().toString();
        String name = full.substring(full.lastIndexOf('.') + 1);
        if (Character.isUpperCase(full.charAt(0))) {
            Check.holds(full + " is of the library that is allowed", LIBRARY.contains(full));
        } else if (!method.equals("<init>")) {
            calls.get(method).add(name);
        } else if (!name.equals("super")) {
            never("a call in a constructor", tree);
        }
        return super.visitMethodInvocation(tree, none);
    }

    @Override
    public Void visitNewClass(NewClassTree tree, Void none) {
        String name = tree.getIdentifier().toString();
        Check.holds("new " + name + " is allowed", MADE.contains(name));
        boolean isThrown = name.endsWith("Exception");
        Check.holds("new " + name + " stands in a constructor, or is thrown",
                isThrown || method.equals("<init>"));
        return super.visitNewClass(tree, none);
    }

    @Override
    public Void visitThrow(ThrowTree tree, Void none) {
        if (!(tree.getExpression() instanceof NewClassTree) || method.equals("<init>")) {
            never("a throw of another form, or in a constructor", tree);
        }
        return super.visitThrow(tree, none);
    }

    @Override
    public Void visitClass(ClassTree tree, Void none) {
        classes++;
        return super.visitClass(tree, none);
    }

    @Override
    public Void visitImport(ImportTree tree, Void none) {
        never("an import", tree);
        return null;
    }

    @Override
    public Void visitTry(TryTree tree, Void none) {
        never("a try", tree);
        return null;
    }

    @Override
    public Void visitLambdaExpression(LambdaExpressionTree tree, Void none) {
        never("a lambda", tree);
        return null;
    }

    @Override
    public Void visitMemberReference(MemberReferenceTree tree, Void none) {
        never("a method reference", tree);
        return null;
    }

    @Override
    public Void visitSynchronized(SynchronizedTree tree, Void none) {
        never("a synchronized block", tree);
        return null;
    }

    @Override
    public Void visitAssert(AssertTree tree, Void none) {
        never("an assert", tree);
        return null;
    }

    @Override
    public Void visitPrimitiveType(PrimitiveTypeTree tree, Void none) {
        if (tree.toString().equals("float")) {
            never("a float", tree);
        }
        return null;
    }

    @Override
    public Void visitLiteral(LiteralTree tree, Void none) {
        if (tree.getValue() instanceof String) {
            String text = (String) tree.getValue();
            Check.holds("signs 1 to 127 alone", text.chars().allMatch(c -> c >= 1 && c <= 127));
        }
        return null;
    }

    @Override
    public Void visitIdentifier(IdentifierTree tree, Void none) {
        if (Set.of("Object", "Arrays", "Thread", "String").contains(tree.getName().toString())) {
            never("the name " + tree.getName(), tree);
        }
        return null;
    }

    @Override
    public Void visitMemberSelect(MemberSelectTree tree, Void none) {
        String text = tree.toString();
        if (text.startsWith("java.") || text.startsWith("javax.")) {
            never("the name " + text, tree);
        }
        return super.visitMemberSelect(tree, none);
    }
}
