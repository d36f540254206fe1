import java.net.URL;
import java.net.URLClassLoader;
import java.nio.file.Files;
import java.nio.file.Path;
import java.util.ArrayList;
import java.util.List;
import java.util.regex.Matcher;
import java.util.regex.Pattern;
import java.util.spi.ToolProvider;

/** README.md tells how to use the class: its example is compiled and run as it stands there, and no call is left out. */
public final class ReadmeTest {
  static final Pattern ANSWER = Pattern.compile("(?m)^(x\\.\\w+\\(.*\\));\\s*// (-?\\d+).*$");

  public static void main(String[] args) throws Exception {
    String readme = Files.readString(Path.of("README.md"));
    List<String> blocks = new ArrayList<>();
    Matcher block = Pattern.compile("(?s)```java\\n(.*?)```").matcher(readme);
    while (block.find()) blocks.add(block.group(1));
    Kit.due("blocks of Java in README.md", blocks.size(), 2);
    if (blocks.size() == 2) example(blocks.get(0), blocks.get(1));
    FaceTest.publicNames().forEach(n -> Kit.due("README.md tells of " + n, readme.contains("`" + n + "`"), true));
    Kit.due("README.md tells how tests are run", readme.contains("`.ci/run`"), true);
    Kit.finish("ReadmeTest");
  }

  static void example(String helper, String calls) throws Exception {
    String[] lines = calls.split("\n");
    int answers = 0;
    StringBuilder body = new StringBuilder();
    for (String line : lines) {
      Matcher m = ANSWER.matcher(line);
      boolean told = m.matches();
      if (line.startsWith("x.")) Kit.due("an answer is told: " + line, told, true);
      if (told) answers++;
      body.append(told ? "due.accept(\"" + m.group(1) + "\", new long[] {" + m.group(1) + ", " + m.group(2) + "});" : line).append('\n');
    }
    Kit.due("calls with their answers", answers > 20, true);
    Path dir = Files.createTempDirectory("readme");
    try {
      compileAndRun(dir, "public final class Example {\n" + helper
          + "public static void run(java.util.function.BiConsumer<String, long[]> due) {\n" + body + "}\n}\n");
    } finally {
      try (var files = Files.list(dir)) { for (Path f : files.toList()) Files.delete(f); }
      Files.delete(dir);
    }
  }

  static void compileAndRun(Path dir, String source) throws Exception {
    Path file = Files.writeString(dir.resolve("Example.java"), source);
    Path classes = Path.of(GateGroup.class.getProtectionDomain().getCodeSource().getLocation().toURI());
    int code = ToolProvider.findFirst("javac").orElseThrow().run(System.out, System.out, "-cp", classes.toString(), "-d", dir.toString(), file.toString());
    Kit.due("the example compiles", code, 0);
    if (code != 0) return;
    java.util.function.BiConsumer<String, long[]> due = (call, both) -> Kit.due("README: " + call, both[0], both[1]);
    try (URLClassLoader loader = new URLClassLoader(new URL[] {dir.toUri().toURL()}, ReadmeTest.class.getClassLoader())) {
      loader.loadClass("Example").getMethod("run", java.util.function.BiConsumer.class).invoke(null, due);
    }
  }
}
