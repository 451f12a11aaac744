import com.sun.source.tree.ClassTree;
import com.sun.source.tree.CompilationUnitTree;
import com.sun.source.tree.LineMap;
import com.sun.source.tree.Tree;
import com.sun.source.util.JavacTask;
import com.sun.source.util.Trees;
import java.io.IOException;
import java.nio.charset.StandardCharsets;
import java.nio.file.Files;
import java.nio.file.Path;
import java.util.List;
import javax.tools.JavaCompiler;
import javax.tools.StandardJavaFileManager;
import javax.tools.ToolProvider;

/** The program as the compiler reads it. */
final class Source {
    static final Path PROGRAM = Path.of("src/main/java/BumperBalls.java");

    final String text;
    final CompilationUnitTree unit;
    final Trees trees;

    Source(Path path) throws IOException {
        text = Files.readString(path, StandardCharsets.ISO_8859_1);
        JavaCompiler compiler = ToolProvider.getSystemJavaCompiler();
        StandardJavaFileManager files = compiler.getStandardFileManager(null, null, StandardCharsets.ISO_8859_1);
        JavacTask task = (JavacTask) compiler.getTask(null, files, null, List.of("-proc:none"), null,
            files.getJavaFileObjects(path));
        unit = task.parse().iterator().next();
        task.analyze();
        trees = Trees.instance(task);
    }

    /** The class that has the face. */
    ClassTree face() {
        for (Tree type : unit.getTypeDecls()) {
            if (type instanceof ClassTree found && found.getSimpleName().contentEquals("BumperBalls")) {
                return found;
            }
        }
        throw new IllegalStateException("no class BumperBalls");
    }

    /** Where a part of the program begins in its text; below 0: the compiler made it. */
    long begin(Tree part) {
        return trees.getSourcePositions().getStartPosition(unit, part);
    }

    long end(Tree part) {
        return trees.getSourcePositions().getEndPosition(unit, part);
    }

    long line(Tree part) {
        return unit.getLineMap().getLineNumber(begin(part));
    }

    int lines(Tree part) {
        LineMap map = unit.getLineMap();
        return (int) (map.getLineNumber(end(part)) - map.getLineNumber(begin(part)) + 1);
    }
}
