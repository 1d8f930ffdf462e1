import com.sun.source.tree.CompilationUnitTree;
import com.sun.source.util.JavacTask;
import com.sun.source.util.Trees;
import java.io.IOException;
import java.util.List;
import javax.tools.JavaCompiler;
import javax.tools.StandardJavaFileManager;
import javax.tools.ToolProvider;

/**
 * The rules of LANGUAGE.md that can be seen in the program's text. Those that ask for the sense of a
 * test (7: each index is looked at; 9: each loop ends) are left to a reader and to the other tests.
 */
public final class LanguageTest {
  public static void main(String[] args) throws IOException {
    JavaCompiler compiler = ToolProvider.getSystemJavaCompiler();
    try (StandardJavaFileManager files = compiler.getStandardFileManager(null, null, null)) {
      JavacTask task = (JavacTask) compiler.getTask(null, files, null,
          List.of("-proc:none", "-Xlint:all"), null, files.getJavaFileObjects(Source.FILE));
      int units = 0;
      for (CompilationUnitTree unit : task.parse()) {
        task.analyze();
        LanguageRules rules = new LanguageRules(Trees.instance(task), unit);
        rules.scan(unit, null);
        rules.finish();
        units++;
      }
      Check.due("0: one file", units, 1);
    }
    Check.finish();
  }
}
