import com.sun.source.tree.ClassTree;
import com.sun.source.tree.CompilationUnitTree;
import com.sun.source.tree.MethodInvocationTree;
import com.sun.source.tree.MethodTree;
import com.sun.source.tree.NewClassTree;
import com.sun.source.tree.Tree;
import com.sun.source.util.JavacTask;
import com.sun.source.util.TreePathScanner;
import com.sun.source.util.Trees;
import java.io.IOException;
import java.nio.file.Path;
import java.util.LinkedHashMap;
import java.util.LinkedHashSet;
import java.util.List;
import java.util.Map;
import java.util.Set;
import javax.lang.model.element.Element;
import javax.lang.model.element.ExecutableElement;
import javax.tools.JavaCompiler;
import javax.tools.StandardJavaFileManager;
import javax.tools.ToolProvider;

/** The class's source as the compiler sees it: its trees, and who calls whom. */
final class Source {
    final CompilationUnitTree unit;
    final Trees trees;
    /** Each method of the file, with those of the file that it calls. */
    final Map<ExecutableElement, Set<ExecutableElement>> calls = new LinkedHashMap<>();

    private Source(CompilationUnitTree unit, Trees trees) {
        this.unit = unit;
        this.trees = trees;
        findCalls();
    }

    static Source read(Path file) throws IOException {
        JavaCompiler compiler = ToolProvider.getSystemJavaCompiler();
        try (StandardJavaFileManager files = compiler.getStandardFileManager(null, null, null)) {
            JavacTask task = (JavacTask) compiler.getTask(null, files, null, List.of("-proc:none"), null,
                files.getJavaFileObjects(file));
            CompilationUnitTree unit = task.parse().iterator().next();
            task.analyze();
            return new Source(unit, Trees.instance(task));
        }
    }

    private void findCalls() {
        new TreePathScanner<Void, ExecutableElement>() {
            @Override
            public Void visitMethod(MethodTree tree, ExecutableElement outside) {
                ExecutableElement method = (ExecutableElement) trees.getElement(getCurrentPath());
                calls.put(method, new LinkedHashSet<>());
                return super.visitMethod(tree, method);
            }

            @Override
            public Void visitMethodInvocation(MethodInvocationTree tree, ExecutableElement from) {
                note(from, trees.getElement(getCurrentPath()));
                return super.visitMethodInvocation(tree, from);
            }

            @Override
            public Void visitNewClass(NewClassTree tree, ExecutableElement from) {
                note(from, trees.getElement(getCurrentPath()));
                return super.visitNewClass(tree, from);
            }
        }.scan(unit, null);
        for (Set<ExecutableElement> called : calls.values()) {
            called.retainAll(calls.keySet());
        }
    }

    private void note(ExecutableElement from, Element called) {
        if (from != null && called instanceof ExecutableElement method) {
            calls.get(from).add(method);
        }
    }

    /** Whether an element is told in this file. */
    boolean isOwn(Element element) {
        Element outermost = element;
        while (outermost.getEnclosingElement() != null && !outermost.getEnclosingElement().getKind().name().equals("PACKAGE")) {
            outermost = outermost.getEnclosingElement();
        }
        return outermost.getSimpleName().contentEquals("CoverTwo");
    }

    /** Whether a method can come back to itself by its own calls. */
    boolean comesBack(ExecutableElement method) {
        Set<ExecutableElement> reached = new LinkedHashSet<>(calls.get(method));
        boolean grows = true;
        while (grows) {
            Set<ExecutableElement> more = new LinkedHashSet<>();
            reached.forEach(one -> more.addAll(calls.get(one)));
            grows = reached.addAll(more);
        }
        return reached.contains(method);
    }

    /** The longest chain of calls from a method on, itself counted, a call back to one of the chain not. */
    int deepest(ExecutableElement method, Set<ExecutableElement> open) {
        if (!open.add(method)) {
            return 0;
        }
        int deepest = 0;
        for (ExecutableElement called : calls.get(method)) {
            deepest = Math.max(deepest, deepest(called, open));
        }
        open.remove(method);
        return deepest + 1;
    }

    long line(Tree tree) {
        return unit.getLineMap().getLineNumber(trees.getSourcePositions().getStartPosition(unit, tree));
    }

    long lines(Tree tree) {
        long end = trees.getSourcePositions().getEndPosition(unit, tree);
        return unit.getLineMap().getLineNumber(end) - line(tree) + 1;
    }

    ClassTree face() {
        return (ClassTree) unit.getTypeDecls().get(0);
    }
}
