import java.io.IOException;
import java.io.PrintStream;
import java.lang.reflect.Method;
import java.lang.reflect.Modifier;
import java.net.URL;
import java.net.URLClassLoader;
import java.nio.file.Files;
import java.nio.file.Path;
import javax.tools.ToolProvider;

/** README.md names every call and how the tests are run, and its example compiles and runs. */
public final class ReadmeTest {
  private static final String FENCE = "```";

  public static void main(String[] args) throws Exception {
    Due due = new Due();
    String text = Files.readString(Path.of("README.md"));
    for (Method method : Pseudorange.class.getDeclaredMethods()) {
      if (Modifier.isPublic(method.getModifiers())) {
        due.is("README.md names " + method.getName(), text.contains("`" + method.getName() + "("), true);
      }
    }
    due.is("README.md tells how to run the tests", text.contains(".ci/run"), true);
    try (var files = Files.list(Path.of("src/test/java"))) {
      files.map(file -> file.getFileName().toString().replace(".java", ""))
          .filter(name -> name.endsWith("Test"))
          .forEach(name -> due.is("README.md names " + name, text.contains("`" + name + "`"), true));
    }
    example(due, text);
    due.end();
  }

  private static String exampleOf(String text) {
    int from = text.indexOf(FENCE + "java");
    int to = from < 0 ? -1 : text.indexOf(FENCE, from + FENCE.length());
    return to < 0 ? "" : text.substring(text.indexOf('\n', from), to);
  }

  private static void example(Due due, String text) throws Exception {
    String code = exampleOf(text);
    due.is("there is an example", code.contains("new Pseudorange()"), true);
    Path made = Files.createTempDirectory("readme");
    try {
      Path file = made.resolve("Example.java");
      Files.writeString(file, "final class Example { static void run() {" + code + "} }\n");
      int failed = ToolProvider.getSystemJavaCompiler().run(null, null, null,
          "-cp", System.getProperty("java.class.path"), "-d", made.toString(), file.toString());
      due.is("the example compiles", failed, 0);
      if (failed == 0) {
        runExample(due, made);
      }
    } finally {
      remove(made);
    }
  }

  private static void runExample(Due due, Path made) throws Exception {
    PrintStream out = System.out;
    try (URLClassLoader loader = new URLClassLoader(new URL[] {made.toUri().toURL()})) {
      System.setOut(new PrintStream(PrintStream.nullOutputStream()));
      Method run = loader.loadClass("Example").getDeclaredMethod("run");
      run.setAccessible(true);
      run.invoke(null);
    } catch (ReflectiveOperationException e) {
      System.setOut(out);
      due.isWrong("the example of README.md failed: " + e.getCause());
    } finally {
      System.setOut(out);
    }
  }

  private static void remove(Path made) throws IOException {
    try (var files = Files.list(made)) {
      for (Path file : files.toList()) {
        Files.delete(file);
      }
    }
    Files.delete(made);
  }
}
