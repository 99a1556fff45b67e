import java.net.URL;
import java.net.URLClassLoader;
import java.nio.file.Files;
import java.nio.file.Path;
import java.util.regex.Matcher;
import java.util.regex.Pattern;
import javax.tools.ToolProvider;

/** The example of README.md compiles, and each answer is the one that it tells behind "// ". */
public final class ReadmeTest {
  private static final Pattern BLOCK = Pattern.compile("(?s)```java\n(.*?)```");
  private static final Pattern CALL = Pattern.compile("(?:\\w+ (\\w+) = )?(church\\.\\w+\\(.*\\)); +// (-?\\d+|true|false)\\b.*");

  public static void main(String[] args) throws Exception {
    Matcher block = BLOCK.matcher(Files.readString(Path.of("README.md")));
    if (!block.find()) {
      System.out.println("README.md has no example");
      System.exit(1);
    }
    Path out = Files.createTempDirectory("readme");
    Path source = out.resolve("Example.java");
    Files.writeString(source, example(block.group(1)));
    // what is named last is deleted first
    Path[] made = {out, source, out.resolve("Example.class")};
    for (Path one : made) one.toFile().deleteOnExit();
    String path = System.getProperty("java.class.path");
    int failed = ToolProvider.getSystemJavaCompiler().run(null, null, null, "-cp", path, "-d", out.toString(), source.toString());
    if (failed != 0) System.exit(1);
    try (URLClassLoader loader = new URLClassLoader(new URL[] {out.toUri().toURL()})) {
      Object wrong = loader.loadClass("Example").getMethod("wrong").invoke(null);
      System.out.println(wrong.equals("") ? "the example of README.md holds" : wrong);
      if (!wrong.equals("")) System.exit(1);
    }
  }

  /** Each line of the example; where it tells an answer, that is looked at. */
  private static String example(String lines) {
    StringBuilder s = new StringBuilder("public class Example {\n  public static String wrong() {\n    String wrong = \"\";\n");
    for (String line : lines.split("\n")) {
      Matcher call = CALL.matcher(line);
      boolean tells = call.matches();
      boolean keeps = tells && call.group(1) != null;
      if (keeps || !tells) s.append(line).append('\n');
      if (tells) {
        s.append("if (").append(keeps ? call.group(1) : call.group(2)).append(" != ").append(call.group(3))
            .append(") wrong += \"not as README.md tells: ").append(call.group(2)).append("\\n\";\n");
      }
    }
    return s.append("    return wrong;\n  }\n}\n").toString();
  }
}
