import com.sun.source.tree.AssertTree;
import com.sun.source.tree.CatchTree;
import com.sun.source.tree.ClassTree;
import com.sun.source.tree.CompilationUnitTree;
import com.sun.source.tree.ImportTree;
import com.sun.source.tree.LambdaExpressionTree;
import com.sun.source.tree.MemberReferenceTree;
import com.sun.source.tree.MethodInvocationTree;
import com.sun.source.tree.MethodTree;
import com.sun.source.tree.NewClassTree;
import com.sun.source.tree.SynchronizedTree;
import com.sun.source.tree.ThrowTree;
import com.sun.source.tree.Tree;
import com.sun.source.tree.TryTree;
import com.sun.source.tree.VariableTree;
import com.sun.source.util.JavacTask;
import com.sun.source.util.TreePathScanner;
import com.sun.source.util.Trees;
import java.nio.file.Path;
import java.util.ArrayList;
import java.util.HashSet;
import java.util.LinkedHashMap;
import java.util.LinkedHashSet;
import java.util.List;
import java.util.Map;
import java.util.Set;
import javax.lang.model.element.Element;
import javax.lang.model.element.ElementKind;
import javax.lang.model.element.Modifier;
import javax.tools.JavaCompiler;
import javax.tools.StandardJavaFileManager;
import javax.tools.ToolProvider;

/** The rules of LANGUAGE.md that can be read off the source: what is used, how long, how many, how deep. */
public final class LanguageTest extends TreePathScanner<Void, Void> {
    private static final Path SOURCE = Path.of("src/main/java/RailOfHeads.java");
    private static final Set<String> LIBRARY = Set.of("java.lang.String.length", "java.lang.String.charAt",
            "java.lang.Math.max", "java.lang.Math.min", "java.lang.Math.abs", "java.lang.Integer.bitCount",
            "java.lang.System.arraycopy", "java.util.Arrays.fill");
    private static final Set<String> RECURSIVE = Set.of("size", "mark");

    private final CompilationUnitTree unit;
    private final Trees trees;
    private final Map<Element, Set<Element>> calls = new LinkedHashMap<>();
    private final Set<String> publicNames = new HashSet<>();
    private final List<Element> methods = new ArrayList<>();
    private Element within;
    private int classes;

    private LanguageTest(CompilationUnitTree unit, Trees trees) {
        this.unit = unit;
        this.trees = trees;
    }

    public static void main(String[] args) throws Exception {
        JavaCompiler compiler = ToolProvider.getSystemJavaCompiler();
        try (StandardJavaFileManager files = compiler.getStandardFileManager(null, null, null)) {
            JavacTask task = (JavacTask) compiler.getTask(null, files, null, List.of("-proc:none"), null,
                    files.getJavaFileObjects(SOURCE));
            CompilationUnitTree unit = task.parse().iterator().next();
            task.analyze();
            LanguageTest test = new LanguageTest(unit, Trees.instance(task));
            test.scan(unit, null);
            test.judge();
        }
        Due.end();
    }

    private void judge() {
        Due.holds("12 classes at most, not " + classes, classes <= 12);
        for (Element m : methods) {
            if (m.getModifiers().contains(Modifier.PUBLIC)) {
                publicNames.add(m.getSimpleName().toString());
            }
        }
        for (Element m : methods) {
            boolean open = m.getModifiers().contains(Modifier.PUBLIC);
            Due.holds(m + " bears a public one's name", open || !publicNames.contains(m.getSimpleName().toString()));
            if (open) {
                int deep = depth(m, new LinkedHashSet<>());
                Due.holds(m + " goes " + deep + " deep", deep <= 8);
            }
        }
    }

    private int depth(Element method, Set<Element> above) {
        if (!above.add(method)) {
            Due.holds(method + " calls itself", RECURSIVE.contains(method.getSimpleName().toString()));
            return 0;
        }
        int deepest = 0;
        for (Element next : calls.getOrDefault(method, Set.of())) {
            deepest = Math.max(deepest, depth(next, above));
        }
        above.remove(method);
        return deepest + 1;
    }

    private void refuse(Tree tree) {
        Due.holds("line " + line(tree, false) + ": " + tree, false);
    }

    private long line(Tree tree, boolean end) {
        long at = end ? trees.getSourcePositions().getEndPosition(unit, tree)
                : trees.getSourcePositions().getStartPosition(unit, tree);
        return unit.getLineMap().getLineNumber(at);
    }

    @Override public Void visitImport(ImportTree tree, Void none) {
        Due.holds(tree.toString(), tree.getQualifiedIdentifier().toString().equals("java.util.Arrays"));
        return null;
    }

    @Override public Void visitClass(ClassTree tree, Void none) {
        classes++;
        boolean nested = classes > 1;
        Set<Modifier> flags = tree.getModifiers().getFlags();
        Due.holds("class " + tree.getSimpleName() + " is static, or the one", !nested || flags.contains(Modifier.STATIC));
        int fields = 0;
        for (Tree member : tree.getMembers()) {
            Due.holds("no block of its own in " + tree.getSimpleName(), member.getKind() != Tree.Kind.BLOCK);
            if (member instanceof VariableTree field) {
                Set<Modifier> of = field.getModifiers().getFlags();
                boolean fixed = of.contains(Modifier.STATIC);
                Due.holds(field + " is final", !fixed || of.contains(Modifier.FINAL));
                fields += fixed ? 0 : 1;
            }
        }
        Due.holds(tree.getSimpleName() + " has " + fields + " fields", fields <= 20);
        return super.visitClass(tree, none);
    }

    @Override public Void visitMethod(MethodTree tree, Void none) {
        within = trees.getElement(getCurrentPath());
        if (within.getKind() == ElementKind.METHOD) {
            methods.add(within);
        }
        long lines = line(tree, true) - line(tree, false) + 1;
        Due.holds(tree.getName() + " has " + lines + " lines", lines <= 60);
        Due.holds(tree.getName() + " takes " + tree.getParameters().size(), tree.getParameters().size() <= 7);
        return super.visitMethod(tree, none);
    }

    @Override public Void visitMethodInvocation(MethodInvocationTree tree, Void none) {
        Element called = trees.getElement(getCurrentPath());
        String owner = called.getEnclosingElement().toString();
        if (owner.startsWith("RailOfHeads")) {
            calls.computeIfAbsent(within, e -> new LinkedHashSet<>()).add(called);
        } else if (called.getKind() == ElementKind.METHOD) {
            Due.holds(owner + "." + called + " is of the library", LIBRARY.contains(owner + "." + called.getSimpleName()));
        }
        return super.visitMethodInvocation(tree, none);
    }

    @Override public Void visitNewClass(NewClassTree tree, Void none) {
        Due.holds(tree + " is made outside a constructor", within == null || within.getKind() != ElementKind.METHOD);
        Due.holds(tree + " has a body", tree.getClassBody() == null);
        return super.visitNewClass(tree, none);
    }

    @Override public Void visitThrow(ThrowTree tree, Void none) {
        refuse(tree);
        return null;
    }

    @Override public Void visitTry(TryTree tree, Void none) {
        refuse(tree);
        return null;
    }

    @Override public Void visitCatch(CatchTree tree, Void none) {
        refuse(tree);
        return null;
    }

    @Override public Void visitSynchronized(SynchronizedTree tree, Void none) {
        refuse(tree);
        return null;
    }

    @Override public Void visitAssert(AssertTree tree, Void none) {
        refuse(tree);
        return null;
    }

    @Override public Void visitLambdaExpression(LambdaExpressionTree tree, Void none) {
        refuse(tree);
        return null;
    }

    @Override public Void visitMemberReference(MemberReferenceTree tree, Void none) {
        refuse(tree);
        return null;
    }
}
