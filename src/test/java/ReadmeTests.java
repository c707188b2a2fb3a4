import java.io.IOException;
import java.lang.reflect.InvocationTargetException;
import java.net.URL;
import java.net.URLClassLoader;
import java.nio.file.DirectoryStream;
import java.nio.file.Files;
import java.nio.file.Path;
import java.util.ArrayList;
import java.util.LinkedHashMap;
import java.util.List;
import java.util.Map;
import java.util.regex.Matcher;
import java.util.regex.Pattern;
import javax.tools.JavaCompiler;
import javax.tools.ToolProvider;

/**
 * README.md: that each call of the document stands in it with its numbers and what it throws, that its example answers
 * what is written behind it, and that it names each test. Its arguments: the class's file, the document's and README's.
 */
public final class ReadmeTests {
  private static final Pattern ANSWERED = Pattern.compile("(.*);\\s*// (-?\\d+(?:\\.\\d+)?)(?::.*)?");
  private static final Pattern THROWN = Pattern.compile("(.*);\\s*// throws (\\w+):.*");

  private ReadmeTests() {}

  public static void main(String[] args) throws IOException, ReflectiveOperationException {
    String readme = Files.readString(Path.of(args[2]));
    calls(Files.readAllLines(Path.of(args[1])), readme);
    example(readme);
    tests(readme);
    Checks.end("ReadmeTests");
  }

  /** What the document or the page says of each call: its numbers, and then what it throws, a line each. */
  private static void calls(List<String> document, String readme) {
    Map<String, List<String>> promised = promised(document);
    Map<String, List<String>> told = told(readme);
    Checks.against("README.md, the calls");
    Checks.check("the document has " + promised.size() + " promises", promised.size() == 29);
    Checks.check("the calls are " + told.keySet() + ", due is " + promised.keySet(),
        List.copyOf(told.keySet()).equals(List.copyOf(promised.keySet())));
    for (Map.Entry<String, List<String>> promise : promised.entrySet()) {
      List<String> got = told.getOrDefault(promise.getKey(), List.of());
      Checks.check(promise.getKey() + " has " + got + ", due is " + promise.getValue(), got.equals(promise.getValue()));
    }
  }

  private static Map<String, List<String>> promised(List<String> document) {
    Map<String, List<String>> promises = new LinkedHashMap<>();
    List<String> promise = new ArrayList<>();
    for (String line : document) {
      Matcher face = Pattern.compile("`([^`]*\\))[^`]*`: (.*)").matcher(line);
      if (face.matches()) {
        promise = new ArrayList<>(List.of(face.group(2).contains("Undoable") ? "Undoable" : ""));
        promises.put(face.group(1), promise);
      } else if (line.startsWith("- `")) {
        promise.add(line.substring(2));
      } else if (line.startsWith("Throws ")) {
        promise.add(line.substring("Throws ".length()));
      }
    }
    return promises;
  }

  private static Map<String, List<String>> told(String readme) {
    Map<String, List<String>> calls = new LinkedHashMap<>();
    List<String> call = new ArrayList<>();
    String section = readme.substring(readme.indexOf("### The calls"), readme.indexOf("## How to run its tests"));
    // what goes on behind a line's end is told further in
    for (String line : section.replaceAll("\n +(?![ -])", " ").split("\n")) {
      Matcher face = Pattern.compile("- `([^`]*\\))` (.*)").matcher(line);
      if (face.matches()) {
        call = new ArrayList<>(List.of(face.group(2).contains("Undoable") ? "Undoable" : ""));
        calls.put(face.group(1), call);
      } else if (line.startsWith("  - ")) {
        call.add(line.substring("  - ".length()));
      }
    }
    return calls;
  }

  /** The example is compiled with a check in place of each answer that is written behind a call. */
  private static void example(String readme) throws IOException, ReflectiveOperationException {
    Checks.against("README.md, the example");
    Matcher block = Pattern.compile("```java\n(.*?)```", Pattern.DOTALL).matcher(readme);
    Checks.check("there is none", block.find());
    StringBuilder text = new StringBuilder("public final class Example {\n  public static void run() {\n");
    for (String line : block.group(1).split("\n")) {
      text.append(checked(line)).append('\n');
    }
    text.append("  }\n}\n");
    Path folder = Files.createTempDirectory("example");
    try {
      runIn(folder, text.toString());
    } finally {
      remove(folder);
    }
  }

  private static String checked(String line) {
    Matcher answered = ANSWERED.matcher(line);
    if (answered.matches()) {
      String call = answered.group(1);
      return "ReadmeTests.answered(\"" + call + "\", " + call + ", " + answered.group(2) + ");";
    }
    Matcher thrown = THROWN.matcher(line);
    if (thrown.matches()) {
      String call = thrown.group(1);
      return "try { " + call + "; ReadmeTests.threw(\"" + call + "\", null, " + thrown.group(2) + ".class); }"
          + " catch (RuntimeException e) { ReadmeTests.threw(\"" + call + "\", e.getClass(), " + thrown.group(2)
          + ".class); }";
    }
    Checks.check("no answer is written behind " + line, !line.matches("laces\\..*"));
    return line;
  }

  /** For the example alone, which stands in another loader and so sees of the tests only what is public. */
  public static void answered(String call, double got, double want) {
    Checks.dueShare(call, got, want);
  }

  /** For the example alone, as above; got is null if nothing was thrown. */
  public static void threw(String call, Class<?> got, Class<?> want) {
    Checks.check(call + " threw " + got + ", due is " + want, got == want);
  }

  private static void runIn(Path folder, String text) throws IOException, ReflectiveOperationException {
    Path file = folder.resolve("Example.java");
    Files.writeString(file, text);
    JavaCompiler compiler = ToolProvider.getSystemJavaCompiler();
    Checks.check("there is no compiler", compiler != null);
    int failed = compiler.run(null, null, null, "-cp", System.getProperty("java.class.path"), "-d", folder.toString(),
        file.toString());
    Checks.check("it does not compile:\n" + text, failed == 0);
    if (failed != 0) {
      return;
    }
    try (URLClassLoader loader = new URLClassLoader(new URL[] {folder.toUri().toURL()})) {
      loader.loadClass("Example").getMethod("run").invoke(null);
    } catch (InvocationTargetException e) {
      Checks.check("threw " + e.getCause() + " out of turn", false);
    }
  }

  private static void remove(Path folder) throws IOException {
    try (DirectoryStream<Path> files = Files.newDirectoryStream(folder)) {
      for (Path file : files) {
        Files.delete(file);
      }
    }
    Files.delete(folder);
  }

  private static void tests(String readme) throws IOException {
    Checks.against("README.md, the tests");
    String section = readme.substring(readme.indexOf("## How to run its tests"));
    try (DirectoryStream<Path> files = Files.newDirectoryStream(Path.of("src/test/java"), "*.java")) {
      for (Path file : files) {
        String name = file.getFileName().toString().replace(".java", "");
        Checks.check(name + " is not named", section.contains("`" + name + "`"));
      }
    }
    for (Matcher named = Pattern.compile("`([A-Z]\\w+)`").matcher(section); named.find(); ) {
      Checks.check("there is no " + named.group(1), Files.exists(Path.of("src/test/java", named.group(1) + ".java")));
    }
  }
}
