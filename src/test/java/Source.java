import com.sun.source.tree.CompilationUnitTree;
import com.sun.source.tree.Tree;
import com.sun.source.util.JavacTask;
import com.sun.source.util.TreePath;
import com.sun.source.util.Trees;
import java.io.IOException;
import java.nio.file.Files;
import java.nio.file.Path;
import java.util.List;
import javax.lang.model.element.Element;
import javax.lang.model.type.TypeMirror;
import javax.tools.JavaCompiler;
import javax.tools.StandardJavaFileManager;
import javax.tools.ToolProvider;

/** A Java file as the compiler reads it: its trees, and what their names stand for. */
final class Source {
    final String text;
    final CompilationUnitTree unit;
    private final Trees trees;

    Source(Path file) throws IOException {
        text = Files.readString(file);
        JavaCompiler compiler = ToolProvider.getSystemJavaCompiler();
        StandardJavaFileManager files = compiler.getStandardFileManager(null, null, null);
        JavacTask task = (JavacTask) compiler.getTask(null, files, null, List.of("-proc:none"), null,
                files.getJavaFileObjects(file));
        unit = task.parse().iterator().next();
        task.analyze();
        trees = Trees.instance(task);
    }

    Element elementAt(TreePath path) {
        return trees.getElement(path);
    }

    TypeMirror typeAt(TreePath path) {
        return trees.getTypeMirror(path);
    }

    /** The compiler adds constructors that are not written. */
    boolean isWritten(Tree tree) {
        return trees.getSourcePositions().getEndPosition(unit, tree) >= 0;
    }

    int firstLine(Tree tree) {
        return (int) unit.getLineMap().getLineNumber(trees.getSourcePositions().getStartPosition(unit, tree));
    }

    int lastLine(Tree tree) {
        return (int) unit.getLineMap().getLineNumber(trees.getSourcePositions().getEndPosition(unit, tree));
    }

    String textOf(Tree tree) {
        return text.substring((int) trees.getSourcePositions().getStartPosition(unit, tree),
                (int) trees.getSourcePositions().getEndPosition(unit, tree));
    }
}
