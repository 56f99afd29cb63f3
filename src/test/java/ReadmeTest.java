import java.io.IOException;
import java.net.URL;
import java.net.URLClassLoader;
import java.nio.charset.StandardCharsets;
import java.nio.file.Files;
import java.nio.file.Path;
import java.util.ArrayList;
import java.util.List;
import java.util.TreeSet;
import java.util.regex.Matcher;
import java.util.regex.Pattern;
import java.util.stream.Stream;
import javax.tools.JavaCompiler;
import javax.tools.ToolProvider;

/**
 * What README.md shows is true: its java lines are compiled and run as they stand there, one behind the other, and each
 * call must answer what is told behind it; the tests that it names are those that there are.
 */
public final class ReadmeTest {
  private static final Path README = Path.of("README.md");
  private static final Path TESTS = Path.of("src/test/java");
  private static final Pattern SHOWN = Pattern.compile("(?ms)^```java\n(.*?)^```$");
  /** A call with its answer behind it (a number, or the name of what it throws), and a word on it. */
  private static final Pattern TOLD = Pattern.compile("(fiddle\\.\\w+\\(.*\\)); +// (-?\\d+|\\w+Exception): \\S.*");
  /** What may stand there without an answer: the calls in a loop are seen by what is read afterwards. */
  private static final Pattern READIED = Pattern.compile("FiddleBuzz fiddle = .*;|String text = .*;|for \\(.*\\) fiddle\\.put\\(.*\\);");
  private static final Pattern TEST_NAMED = Pattern.compile("`(\\w+Test)`");

  private static final List<String> lines = new ArrayList<>();
  private static final List<String> answersTold = new ArrayList<>();
  private static int wrong;

  private static void tell(String what) {
    wrong++;
    System.out.println(what);
  }

  /** The lines that are shown, as the source of a class whose answers() runs them. */
  private static String sourceOf(String readme) {
    StringBuilder b = new StringBuilder("public final class Shown {\n  public static java.util.List<String> answers() {\n");
    b.append("    java.util.List<String> all = new java.util.ArrayList<>();\n");
    Matcher shown = SHOWN.matcher(readme);
    while (shown.find()) {
      for (String line : shown.group(1).split("\n")) {
        Matcher told = TOLD.matcher(line);
        if (told.matches()) {
          lines.add(line);
          answersTold.add(told.group(2));
          b.append("    try { all.add(String.valueOf(").append(told.group(1)).append(")); }");
          b.append(" catch (RuntimeException e) { all.add(e.getClass().getSimpleName()); }\n");
        } else if (READIED.matcher(line).matches()) {
          b.append("    ").append(line).append('\n');
        } else {
          tell("a line that tells no answer: " + line);
        }
      }
    }
    return b.append("    return all;\n  }\n}\n").toString();
  }

  private static List<?> run(String source) throws Exception {
    JavaCompiler compiler = ToolProvider.getSystemJavaCompiler();
    if (compiler == null) throw new IllegalStateException("there is no javac");
    Path made = Files.createTempDirectory("shown");
    try {
      Path file = Files.writeString(made.resolve("Shown.java"), source, StandardCharsets.UTF_8);
      String classes = System.getProperty("java.class.path");
      if (compiler.run(null, null, null, "-encoding", "UTF-8", "-d", made.toString(), "-cp", classes, file.toString()) != 0) {
        tell("what README.md shows does not compile");
        return List.of();
      }
      try (URLClassLoader loader = new URLClassLoader(new URL[] {made.toUri().toURL()}, ReadmeTest.class.getClassLoader())) {
        return (List<?>) loader.loadClass("Shown").getMethod("answers").invoke(null);
      }
    } finally {
      remove(made);
    }
  }

  private static void remove(Path folder) throws IOException {
    try (Stream<Path> inside = Files.list(folder)) {
      for (Path file : inside.toList()) Files.delete(file);
    }
    Files.delete(folder);
  }

  private static void answersAreAsTold(String readme, List<?> answers) {
    if (answers.isEmpty()) tell("README.md shows no call");
    long calls = readme.lines().filter(line -> line.trim().startsWith("fiddle.")).count();
    if (calls != answersTold.size()) tell("README.md has " + calls + " calls, of which " + answersTold.size() + " tell an answer");
    for (int i = 0; i < answers.size(); i++) {
      if (!answers.get(i).equals(answersTold.get(i))) tell("answered " + answers.get(i) + ": " + lines.get(i));
    }
  }

  private static void testsAreAsNamed(String readme) throws IOException {
    TreeSet<String> named = new TreeSet<>();
    Matcher m = TEST_NAMED.matcher(readme);
    while (m.find()) named.add(m.group(1));
    TreeSet<String> there = new TreeSet<>();
    try (Stream<Path> files = Files.list(TESTS)) {
      for (Path file : files.toList()) {
        String name = file.getFileName().toString();
        if (name.endsWith("Test.java")) there.add(name.substring(0, name.length() - ".java".length()));
      }
    }
    if (!named.equals(there)) tell("README.md names the tests " + named + ", there are " + there);
    if (!readme.contains("\n    bash .ci/run\n") || !Files.isExecutable(Path.of(".ci/run"))) tell("how to run the tests isn't as told");
  }

  public static void main(String[] args) throws Exception {
    String readme = Files.readString(README, StandardCharsets.UTF_8);
    answersAreAsTold(readme, run(sourceOf(readme)));
    testsAreAsNamed(readme);
    System.out.println(answersTold.size() + " answers of README.md, " + wrong + " not as due");
    if (wrong != 0) System.exit(1);
  }
}
