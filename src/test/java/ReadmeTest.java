import java.io.ByteArrayOutputStream;
import java.io.IOException;
import java.io.PrintStream;
import java.net.URL;
import java.net.URLClassLoader;
import java.nio.charset.StandardCharsets;
import java.nio.file.Files;
import java.nio.file.Path;
import java.util.ArrayList;
import java.util.List;
import java.util.regex.Matcher;
import java.util.regex.Pattern;
import javax.tools.ToolProvider;

/** The program in README.md prints what stands behind its lines, and the page names every call and every test. */
public final class ReadmeTest {
  private static final Pattern PROGRAM = Pattern.compile("```java\\n(.*?)```", Pattern.DOTALL);
  // What is due stands behind the line, up to a colon.
  private static final Pattern PRINTED = Pattern.compile("println\\(.*\\); *// ([^:]*)");
  private static final Check CHECK = new Check("ReadmeTest");

  private ReadmeTest() {
  }

  public static void main(String[] args) throws Exception {
    String page = Files.readString(Path.of("README.md"));
    Matcher program = PROGRAM.matcher(page);
    CHECK.due("the page has a program", program.find(), true);
    String source = program.group(1);
    List<String> due = due(source);
    CHECK.due("the program tells what it prints", due.size() > 10, true);
    List<String> printed = run(source);
    CHECK.due("lines that the program prints", printed.size(), due.size());
    for (int i = 0; i < Math.min(due.size(), printed.size()); i++) {
      CHECK.due("line " + i + " '" + printed.get(i) + "' is '" + due.get(i) + "'", printed.get(i).equals(due.get(i)), true);
    }
    namesAll(page);
    CHECK.close();
  }

  private static List<String> due(String source) {
    List<String> due = new ArrayList<>();
    for (String line : source.split("\\n")) {
      Matcher printed = PRINTED.matcher(line);
      if (printed.find()) {
        due.add(printed.group(1).strip());
      }
    }
    return due;
  }

  private static List<String> run(String source) throws Exception {
    Path folder = Files.createTempDirectory("readme");
    Path file = folder.resolve("Example.java");
    Files.writeString(file, source);
    int code = ToolProvider.getSystemJavaCompiler().run(null, null, null, "-proc:none", "-cp", System.getProperty("java.class.path"),
        "-d", folder.toString(), file.toString());
    CHECK.due("the program compiles", code, 0);
    PrintStream out = System.out;
    ByteArrayOutputStream bytes = new ByteArrayOutputStream();
    try (URLClassLoader loader = new URLClassLoader(new URL[] {folder.toUri().toURL()})) {
      System.setOut(new PrintStream(bytes, true, StandardCharsets.UTF_8));
      loader.loadClass("Example").getMethod("main", String[].class).invoke(null, (Object) new String[0]);
    } finally {
      System.setOut(out);
      clear(folder);
    }
    return bytes.toString(StandardCharsets.UTF_8).lines().toList();
  }

  private static void clear(Path folder) throws IOException {
    for (String name : List.of("Example.java", "Example.class")) {
      Files.deleteIfExists(folder.resolve(name));
    }
    Files.deleteIfExists(folder);
  }

  private static void namesAll(String page) throws IOException {
    for (var method : LawRock.class.getDeclaredMethods()) {
      if (java.lang.reflect.Modifier.isPublic(method.getModifiers())) {
        CHECK.due("the page names " + method.getName(), page.contains("`" + method.getName() + "`"), true);
      }
    }
    try (var files = Files.list(Path.of("src/test/java"))) {
      for (Path file : files.toList()) {
        String name = file.getFileName().toString().replace(".java", "");
        CHECK.due("the page names " + name, page.contains(name), true);
      }
    }
  }
}
