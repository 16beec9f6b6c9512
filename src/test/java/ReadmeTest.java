import java.lang.reflect.InvocationTargetException;
import java.lang.reflect.Method;
import java.lang.reflect.Modifier;
import java.net.URL;
import java.net.URLClassLoader;
import java.nio.file.Files;
import java.nio.file.Path;
import java.util.ArrayList;
import java.util.List;
import java.util.regex.Matcher;
import java.util.regex.Pattern;
import javax.tools.ToolProvider;

/** README.md: its examples answer what stands behind them, and it names each call and each test. */
public final class ReadmeTest {
  private static int wrong = 0;
  private static int answers = 0;

  private static void fault(String what) {
    wrong++;
    System.out.println("README.md: " + what);
  }

  // The examples call this one.
  public static void due(String line, Object got, Object want) {
    answers++;
    if (!got.toString().equals(want.toString())) fault(line + " answered " + got);
  }

  private static final Pattern ANSWERED = Pattern.compile("(?:int (\\w+) = )?(boxes\\..*);\\s*// (-?\\d+|\\w+Exception)\\b.*");

  /** An example's lines as statements; a line with an answer behind it becomes a check. */
  private static String statements(String example) {
    StringBuilder s = new StringBuilder();
    int number = 0;
    for (String line : example.split("\n")) {
      Matcher m = ANSWERED.matcher(line);
      if (!m.matches()) {
        if (line.contains("//")) fault("what is due in: " + line);
        s.append(line).append('\n');
        continue;
      }
      String got = "got" + number++;
      String said = "\"" + m.group(2).replace("\"", "\\\"") + "\"";
      s.append("Object ").append(got).append(";\n");
      s.append("try { ").append(got).append(" = ").append(m.group(2)).append("; } catch (RuntimeException e) { ").append(got).append(" = e.getClass().getSimpleName(); }\n");
      s.append("ReadmeTest.due(").append(said).append(", ").append(got).append(", \"").append(m.group(3)).append("\");\n");
      if (m.group(1) != null) s.append("int ").append(m.group(1)).append(" = (Integer) ").append(got).append(";\n");
    }
    return s.toString();
  }

  private static void examples(String page) throws Exception {
    List<String> found = new ArrayList<>();
    Matcher m = Pattern.compile("(?s)```java\n(.*?)```").matcher(page);
    while (m.find()) found.add(m.group(1));
    if (found.isEmpty()) fault("there is no example");
    Path dir = Files.createTempDirectory("readme");
    Path file = dir.resolve("Examples.java");
    StringBuilder s = new StringBuilder("public final class Examples {\n");
    for (int i = 0; i < found.size(); i++) s.append("public static void example").append(i).append("() {\n").append(statements(found.get(i))).append("}\n");
    Files.writeString(file, s.append("}\n"));
    if (ToolProvider.getSystemJavaCompiler().run(null, null, null, "-cp", System.getProperty("java.class.path"), "-d", dir.toString(), file.toString()) != 0) {
      fault("an example does not compile");
    } else {
      try (URLClassLoader loader = new URLClassLoader(new URL[] {dir.toUri().toURL()}, ReadmeTest.class.getClassLoader())) {
        for (int i = 0; i < found.size(); i++) run(loader.loadClass("Examples").getMethod("example" + i));
      }
    }
    for (String name : dir.toFile().list()) Files.delete(dir.resolve(name));
    Files.delete(dir);
  }

  private static void run(Method example) throws Exception {
    try {
      example.invoke(null);
    } catch (InvocationTargetException e) {
      fault(example.getName() + " ended with " + e.getCause());
    }
  }

  private static void names(String page, Path project) {
    for (Method m : ShallowBoxes.class.getDeclaredMethods())
      if (Modifier.isPublic(m.getModifiers()) && !page.contains("`" + m.getName() + "`")) fault("it does not name the call " + m.getName());
    for (String file : project.resolve("src/test/java").toFile().list())
      if (!page.contains("`" + file.replace(".java", "") + "`")) fault("it does not name the test " + file);
    Matcher m = Pattern.compile("`(src/[\\w./]*)`").matcher(page);
    while (m.find()) if (!Files.exists(project.resolve(m.group(1)))) fault("there is no " + m.group(1));
  }

  public static void main(String[] args) throws Exception {
    Path project = Path.of(System.getProperty("project", "."));
    String page = Files.readString(project.resolve("README.md"));
    examples(page);
    names(page, project);
    System.out.println("readme: " + answers + " answers, " + wrong + " faults");
    if (wrong != 0 || answers == 0) System.exit(1);
  }
}
