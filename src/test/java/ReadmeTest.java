import java.io.StringWriter;
import java.lang.reflect.Method;
import java.lang.reflect.Modifier;
import java.net.URL;
import java.net.URLClassLoader;
import java.nio.file.Files;
import java.nio.file.Path;
import java.util.ArrayList;
import java.util.List;
import java.util.regex.Matcher;
import java.util.regex.Pattern;
import java.util.stream.Stream;
import javax.tools.JavaCompiler;
import javax.tools.ToolProvider;

/** README.md's example is run as it stands, and README.md names every call and every test. */
public final class ReadmeTest {
  private static final List<String> wrong = new ArrayList<>();
  private static int asked = 0;

  public static void main(String[] args) throws Exception {
    String readme = Files.readString(Path.of("README.md"));
    Matcher block = Pattern.compile("(?s)```java\n(.*?)```").matcher(readme);
    if (block.find()) runExample(block.group(1));
    if (asked == 0) wrong.add("README.md has no example whose calls have their answers behind them");
    names(readme);
    for (String w : wrong) System.out.println(w);
    System.out.println("ReadmeTest: " + (wrong.isEmpty() ? "README.md holds" : wrong.size() + " faults"));
    if (!wrong.isEmpty()) System.exit(1);
  }

  /** The example calls this for each call that has an answer behind it. */
  public static void due(String call, int got, int want) {
    asked++;
    if (got != want) wrong.add("README.md: " + call + " answered " + got + ", the page says " + want);
  }

  private static void runExample(String lines) throws Exception {
    String body = Pattern.compile("(?m)^(x\\.\\w+\\(.*\\)); *// (-?\\d+).*$").matcher(lines)
        .replaceAll(m -> Matcher.quoteReplacement("ReadmeTest.due(\"" + m.group(1) + "\", " + m.group(1) + ", " + m.group(2) + ");"));
    Path dir = Files.createTempDirectory("readme");
    Path source = dir.resolve("Example.java");
    Files.writeString(source, "public class Example { public static void run() {\n" + body + "} }\n");
    if (compiles(source, dir)) runIn(dir);
    deleteAll(dir);
  }

  private static boolean compiles(Path source, Path dir) {
    JavaCompiler compiler = ToolProvider.getSystemJavaCompiler();
    StringWriter said = new StringWriter();
    boolean well = compiler.getTask(said, null, null, List.of("-cp", System.getProperty("java.class.path"), "-d", dir.toString()), null,
        compiler.getStandardFileManager(null, null, null).getJavaFileObjects(source)).call();
    if (!well) wrong.add("README.md's example does not compile: " + said);
    return well;
  }

  private static void runIn(Path dir) throws Exception {
    try (URLClassLoader loader = new URLClassLoader(new URL[] {dir.toUri().toURL()}, ReadmeTest.class.getClassLoader())) {
      loader.loadClass("Example").getMethod("run").invoke(null);
    }
  }

  private static void deleteAll(Path dir) throws Exception {
    try (Stream<Path> files = Files.list(dir)) {
      for (Path file : files.toList()) Files.delete(file);
    }
    Files.delete(dir);
  }

  private static void names(String readme) throws Exception {
    for (Method m : FootNotes.class.getDeclaredMethods())
      if (Modifier.isPublic(m.getModifiers()) && !readme.contains("`" + m.getName() + "`")) wrong.add("README.md does not name " + m.getName());
    try (Stream<Path> files = Files.list(Path.of("src/test/java"))) {
      for (Path file : files.toList()) {
        String name = file.getFileName().toString().replace(".java", "");
        if (name.endsWith("Test") && !readme.contains("`" + name + "`")) wrong.add("README.md does not name " + name);
      }
    }
  }
}
