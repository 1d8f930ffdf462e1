import java.io.ByteArrayOutputStream;
import java.io.IOException;
import java.io.PrintStream;
import java.lang.reflect.Method;
import java.lang.reflect.Modifier;
import java.net.URL;
import java.net.URLClassLoader;
import java.nio.file.Files;
import java.nio.file.Path;
import java.util.ArrayList;
import java.util.List;
import java.util.Map;
import java.util.Set;
import java.util.TreeMap;
import java.util.TreeSet;
import java.util.regex.Matcher;
import java.util.regex.Pattern;
import java.util.stream.Stream;
import javax.tools.ToolProvider;

/** README.md: its example is run as it stands, and its tables are held against the class. */
public final class ReadmeTest {
  private static final Path README = Path.of("README.md");
  private static final Pattern PRINTS = Pattern.compile("System\\.out\\.println\\(.*\\); +// (.*)");
  private static final Pattern CALL_ROW =
      Pattern.compile("\\| `(\\w+)\\(([^)]*)\\)` \\| [^|]+ \\|([^|]*)\\|");
  private static final Pattern TEST_NAME = Pattern.compile("`(\\w+Test)`");
  private static final Map<String, String> EXCEPTIONS = Map.of(
      "index", "IndexOutOfBoundsException", "argument", "IllegalArgumentException",
      "state", "IllegalStateException", "element", "NoSuchElementException");

  public static void main(String[] args) throws Exception {
    List<String> lines = Files.readAllLines(README);
    List<String> example = example(lines);
    theExamplePrintsWhatItTells(example);
    everyCallIsInTheExample(String.join("\n", example));
    everyCallHasARow(lines);
    everyExceptionIsExplained(lines);
    everyTestIsNamed(lines);
    Check.due(".ci/run is named and can be run",
        lines.contains("    .ci/run") && Files.isExecutable(Path.of(".ci/run")), true);
    Check.finish();
  }

  /** The lines of the one block of Java. */
  private static List<String> example(List<String> lines) {
    int start = lines.indexOf("```java");
    Check.due("there is an example", start >= 0, true);
    Check.due("there is one example", start, lines.lastIndexOf("```java"));
    int end = start;
    while (end < lines.size() && !lines.get(end).equals("```")) {
      end++;
    }
    return lines.subList(start + 1, end);
  }

  private static void theExamplePrintsWhatItTells(List<String> example) throws Exception {
    List<String> told = new ArrayList<>();
    for (String line : example) {
      Matcher prints = PRINTS.matcher(line.trim());
      if (prints.matches()) {
        told.add(prints.group(1));
      } else {
        Check.due("prints without telling what: " + line, line.contains("println"), false);
      }
    }
    String[] printed = printedBy(example).split("\n");
    Check.due("lines that the example prints", printed.length, told.size());
    for (int i = 0; i < Math.min(printed.length, told.size()); i++) {
      // Behind a colon stands what the answer means.
      String due = told.get(i).replaceFirst(": .*", "");
      Check.same("line " + (i + 1) + " that the example prints", printed[i], due);
    }
  }

  /** Compiles the example as it stands, and runs it. */
  private static String printedBy(List<String> example) throws Exception {
    Path directory = Files.createTempDirectory("example");
    Path source = directory.resolve("Example.java");
    Files.write(source, example);
    PrintStream usual = System.out;
    try {
      int failed = ToolProvider.getSystemJavaCompiler().run(null, null, null, "-Xlint:all",
          "-Werror", "-cp", System.getProperty("java.class.path"), "-d", directory.toString(),
          source.toString());
      Check.due("the example is compiled", failed, 0);
      if (failed != 0) {
        return "";
      }
      ByteArrayOutputStream printed = new ByteArrayOutputStream();
      System.setOut(new PrintStream(printed, true));
      URL[] urls = {directory.toUri().toURL()};
      try (URLClassLoader loader = new URLClassLoader(urls)) {
        loader.loadClass("Example").getMethod("main", String[].class)
            .invoke(null, (Object) new String[0]);
      }
      return printed.toString().replace(System.lineSeparator(), "\n");
    } finally {
      System.setOut(usual);
      delete(directory);
    }
  }

  private static void delete(Path directory) throws IOException {
    try (Stream<Path> files = Files.list(directory)) {
      for (Path file : (Iterable<Path>) files::iterator) {
        Files.delete(file);
      }
    }
    Files.delete(directory);
  }

  private static List<Method> calls() {
    List<Method> calls = new ArrayList<>();
    for (Method method : Treeclerk.class.getDeclaredMethods()) {
      if (Modifier.isPublic(method.getModifiers())) {
        calls.add(method);
      }
    }
    Check.due("calls", calls.size(), 31);
    return calls;
  }

  private static void everyCallIsInTheExample(String example) {
    for (Method call : calls()) {
      Check.due(call.getName() + " is in the example",
          example.contains("clerk." + call.getName() + "("), true);
    }
    for (String exception : EXCEPTIONS.values()) {
      Check.due(exception + " is in the example", example.contains("catch (" + exception), true);
    }
  }

  private static void everyCallHasARow(List<String> lines) {
    Map<String, String> rows = new TreeMap<>();
    for (String line : lines) {
      Matcher row = CALL_ROW.matcher(line);
      if (row.matches()) {
        String call = row.group(1) + "/" + (row.group(2).isEmpty() ? 0
            : row.group(2).split(", ").length);
        Check.due(call + " has one row", rows.put(call, row.group(3).trim()) == null, true);
      }
    }
    Map<String, String> due = new TreeMap<>();
    for (Method call : calls()) {
      due.put(call.getName() + "/" + call.getParameterCount(), "");
      String row = rows.getOrDefault(call.getName() + "/" + call.getParameterCount(), "no row");
      List<String> told = new ArrayList<>();
      for (String word : row.isEmpty() ? new String[0] : row.split("; ")) {
        told.add(EXCEPTIONS.getOrDefault(word.replaceFirst(":.*", ""), word));
      }
      List<String> thrown = new ArrayList<>();
      for (Class<?> exception : call.getExceptionTypes()) {
        thrown.add(exception.getSimpleName());
      }
      Check.same(call.getName() + " throws, as README.md tells", told.toString(),
          thrown.toString());
    }
    Check.same("calls that have rows", rows.keySet().toString(), due.keySet().toString());
  }

  private static void everyExceptionIsExplained(List<String> lines) {
    String all = String.join("\n", lines);
    EXCEPTIONS.forEach((word, name) -> Check.due(word + " is explained",
        all.matches("(?s).*- \\*" + word + "\\*: `(java\\.util\\.)?" + name + "`.*"), true));
  }

  private static void everyTestIsNamed(List<String> lines) throws IOException {
    Set<String> named = new TreeSet<>();
    for (String line : lines) {
      Matcher name = TEST_NAME.matcher(line.startsWith("| `") ? line : "");
      while (name.find()) {
        named.add(name.group(1));
      }
    }
    Set<String> there = new TreeSet<>();
    try (Stream<Path> files = Files.list(Path.of("tests"))) {
      files.map(file -> file.getFileName().toString()).filter(name -> name.endsWith("Test.java"))
          .forEach(name -> there.add(name.replace(".java", "")));
    }
    Check.same("tests that README.md names", named.toString(), there.toString());
  }
}
