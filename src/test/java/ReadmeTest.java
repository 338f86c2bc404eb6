import java.io.File;
import java.net.URL;
import java.net.URLClassLoader;
import java.nio.file.Files;
import java.nio.file.Path;
import java.util.ArrayList;
import java.util.List;
import java.util.TreeSet;
import java.util.regex.Matcher;
import java.util.regex.Pattern;
import java.util.stream.Stream;
import javax.tools.JavaCompiler;
import javax.tools.ToolProvider;

/** README.md: its example is compiled and must answer as it says; its way to run the tests is .ci/run's own. */
public final class ReadmeTest {
  private static final Telling TELLING = new Telling();
  private static final Path MAIN = Path.of("src/main/java/OnePair.java");
  private static final Path TESTS = Path.of("src/test/java");
  /** A call and what its comment begins with: the answer. */
  private static final Pattern ASKED = Pattern.compile("(\\w[^=]*\\));\\s+// (-?\\d+|true|false)\\b.*");

  private static void holds(String what, boolean holds) {
    TELLING.due(what, holds, true);
  }

  /** Blocks of a kind in the page, each as its lines. */
  private static List<List<String>> blocks(List<String> page, String kind) {
    List<List<String>> blocks = new ArrayList<>();
    boolean inside = false;
    for (String line : page) {
      if (line.startsWith("```")) {
        inside = line.equals("```" + kind);
        if (inside) {
          blocks.add(new ArrayList<>());
        }
      } else if (inside) {
        blocks.get(blocks.size() - 1).add(line);
      }
    }
    return blocks;
  }

  /** A program by the page's helper and example: it tells each answer, one a line. */
  private static String program(List<String> helper, List<String> example, List<String> answers, List<String> calls) {
    StringBuilder source = new StringBuilder("public final class Example {\n");
    source.append(String.join("\n", helper)).append("\npublic static void run(java.util.List<String> told) {\n");
    for (String line : example) {
      Matcher m = ASKED.matcher(line);
      if (m.matches()) {
        calls.add(m.group(1));
        answers.add(m.group(2));
        source.append("told.add(\"\" + ").append(m.group(1)).append(");\n");
      } else {
        holds("an answer is told behind: " + line, line.isEmpty() || line.equals("OnePair x = new OnePair();"));
        source.append(line).append("\n");
      }
    }
    return source.append("}\n}\n").toString();
  }

  private static List<String> runExample(String program) throws Exception {
    Path folder = Files.createTempDirectory("readme");
    Path file = folder.resolve("Example.java");
    Files.writeString(file, program);
    JavaCompiler compiler = ToolProvider.getSystemJavaCompiler();
    String classes = System.getProperty("java.class.path");
    int failed = compiler.run(null, null, null, "-proc:none", "-cp", classes, "-d", folder.toString(), file.toString());
    holds("the example compiles", failed == 0);
    List<String> told = new ArrayList<>();
    if (failed == 0) {
      try (URLClassLoader loader = new URLClassLoader(new URL[] {folder.toUri().toURL()}, ReadmeTest.class.getClassLoader())) {
        loader.loadClass("Example").getMethod("run", List.class).invoke(null, told);
      }
    }
    for (File made : folder.toFile().listFiles()) {
      made.delete();
    }
    Files.delete(folder);
    return told;
  }

  private static void checkExample(List<String> page) throws Exception {
    List<List<String>> java = blocks(page, "java");
    TELLING.due("blocks of Java", java.size(), 2);
    List<String> answers = new ArrayList<>();
    List<String> calls = new ArrayList<>();
    List<String> told = runExample(program(java.get(0), java.get(1), answers, calls));
    holds("the example asks", calls.size() > 10);
    TELLING.due("answers of the example", told.size(), answers.size());
    for (int i = 0; i < told.size(); i++) {
      holds(calls.get(i) + " answers " + told.get(i) + ", README.md says " + answers.get(i), told.get(i).equals(answers.get(i)));
    }
  }

  private static void checkWayToTest(List<String> page) {
    List<List<String>> shell = blocks(page, "sh");
    TELLING.due("blocks of shell", shell.size(), 1);
    holds("its way to run the tests is .ci/run", shell.get(0).equals(List.of(".ci/run")));
    holds(".ci/run can be run", Files.isExecutable(Path.of(".ci/run")));
  }

  /** All names that stand in backquotes. */
  private static TreeSet<String> names(List<String> page) {
    TreeSet<String> names = new TreeSet<>();
    Matcher m = Pattern.compile("`(\\w+)`").matcher(String.join(" ", page));
    while (m.find()) {
      names.add(m.group(1));
    }
    return names;
  }

  private static void checkNames(List<String> page) throws Exception {
    TreeSet<String> names = names(page);
    try (Stream<Path> files = Files.list(TESTS)) {
      for (Path file : (Iterable<Path>) files::iterator) {
        String name = file.getFileName().toString().replace(".java", "");
        holds("README.md names " + name, names.contains(name));
      }
    }
    String source = Files.readString(MAIN);
    Matcher m = Pattern.compile("\n    private static final class (\\w+)").matcher(source);
    while (m.find()) {
      holds("README.md names " + m.group(1), names.contains(m.group(1)));
    }
    for (String name : names) {
      boolean isTest = Files.exists(TESTS.resolve(name + ".java"));
      boolean isClass = source.contains(" class " + name + " ");
      holds(name + " of README.md is there", isTest || isClass || name.matches("[a-z]+|NONE"));
    }
  }

  public static void main(String[] args) throws Exception {
    List<String> page = Files.readAllLines(Path.of("README.md"));
    checkExample(page);
    checkWayToTest(page);
    checkNames(page);
    TELLING.close("ReadmeTest");
  }
}
