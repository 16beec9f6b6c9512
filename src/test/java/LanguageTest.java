import java.lang.reflect.Field;
import java.lang.reflect.Method;
import java.lang.reflect.Modifier;
import java.nio.file.Files;
import java.nio.file.Path;
import java.util.Arrays;
import java.util.List;
import java.util.Set;
import java.util.TreeSet;
import java.util.regex.Matcher;
import java.util.regex.Pattern;

/** The rules of LANGUAGE.md that a look at the text or at the compiled class can tell. */
public final class LanguageTest {
  private static int wrong = 0;

  private static void rule(int number, boolean kept, String what) {
    if (!kept) { wrong++; System.out.println("rule " + number + ": " + what); }
  }

  private static final List<String> FACE = Arrays.asList("append(int)", "clearText()", "errorPosition()", "about(int)", "rectangle(int,int)", "node(int,int)",
    "entry(int,int)", "add(int,int,int,int)", "addAll()", "remove(int)", "move(int,int,int)", "undo()", "window(int,int,int,int)", "looks(int,int,int,int)",
    "nearest(int,int,int)", "chosen(int,int,int,int)", "ifAdded(int,int,int,int)", "bestRemoval()", "anew()", "runScript(int,long)", "simulate(long,int)",
    "save(int)", "restore(int)");

  private static String signature(Method m) {
    StringBuilder s = new StringBuilder(m.getName()).append('(');
    for (Class<?> p : m.getParameterTypes()) s.append(s.charAt(s.length() - 1) == '(' ? "" : ",").append(p.getName());
    return s.append(')').toString();
  }

  private static void face() {
    Set<String> open = new TreeSet<>(), names = new TreeSet<>();
    for (Method m : ShallowBoxes.class.getDeclaredMethods()) {
      if (m.isSynthetic() || Modifier.isPrivate(m.getModifiers())) continue;
      open.add(signature(m));
      names.add(m.getName());
      rule(1, Modifier.isPublic(m.getModifiers()) && !Modifier.isStatic(m.getModifiers()) && m.getReturnType() == int.class, signature(m));
    }
    rule(1, open.equals(new TreeSet<>(FACE)), "the face is " + open);
    for (Field f : ShallowBoxes.class.getDeclaredFields())
      rule(1, Modifier.isPrivate(f.getModifiers()) || f.getName().equals("NONE"), "field " + f.getName());
    rule(1, ShallowBoxes.class.getDeclaredConstructors().length == 1 && Modifier.isFinal(ShallowBoxes.class.getModifiers()), "the class or its constructors");
    inside(ShallowBoxes.class, names);
    for (Class<?> c : ShallowBoxes.class.getDeclaredClasses()) inside(c, names);
    rule(11, ShallowBoxes.class.getDeclaredClasses().length <= 11, "classes");
  }

  private static void inside(Class<?> c, Set<String> face) {
    int fields = 0;
    for (Field f : c.getDeclaredFields()) {
      if (!Modifier.isStatic(f.getModifiers())) fields++;
      else rule(5, Modifier.isFinal(f.getModifiers()) && f.getType().isPrimitive(), "static field " + f.getName());
    }
    rule(11, fields <= 20, fields + " fields in " + c.getName());
    for (Method m : c.getDeclaredMethods()) {
      rule(11, m.getParameterCount() <= 7, signature(m));
      rule(1, c == ShallowBoxes.class && Modifier.isPublic(m.getModifiers()) || !face.contains(m.getName()), "another method named " + m.getName());
    }
  }

  private static void text(String source) {
    String bare = source.replaceAll("(?s)/\\*.*?\\*/", "").replaceAll("//[^\n]*", "").replaceAll("\"[^\"\n]*\"", "\"\"");
    String[] banned = {"\\bimport\\b", "\\bpackage\\b", "->", "::", "\\bsynchronized\\b", "\\bassert\\b", "\\bfinally\\b", "\\bcatch\\b", "\\btry\\b", "\\bextends\\b",
      "Exact\\b", "\\bstatic\\s*\\{", "\"\"\\s*\\+", "\\+\\s*\"\"", "\\bhashCode\\b", "\\btoString\\b", "\\bequals\\b", "\\bgetMessage\\b", "\\bfloat\\b", "\\bdouble\\b",
      "\\bRandom\\b", "\\bnanoTime\\b", "\\bcurrentTimeMillis\\b", "\\bThread\\b", "\\bvar\\b", "@", "\\bwhile\\s*\\(\\s*true"};
    for (String b : banned) {
      Matcher m = Pattern.compile(b).matcher(bare);
      rule(4, !m.find(), "the text has " + b);
    }
    Matcher dots = Pattern.compile("\\b(Math|System|Arrays|Integer|Long|String|StringBuilder|ArrayList|List)\\.(\\w+)").matcher(bare);
    while (dots.find()) rule(4, Set.of("Math.min", "Math.max", "System.arraycopy").contains(dots.group()), dots.group());
    Matcher thrown = Pattern.compile("throw\\s+(?!new (IllegalArgument|IllegalState|IndexOutOfBounds)Exception\\(\"\"\\);)").matcher(bare);
    rule(6, !thrown.find(), "a throw of another form");
    rule(4, source.chars().allMatch(c -> c == '\n' || c >= 32 && c < 127), "another sign");
    int start = 0, line = 0;
    for (String l : source.split("\n", -1)) {
      line++;
      if (l.matches("(    |        )[\\w].*\\{")) start = line;
      if (l.matches("(    |        )\\}") && start > 0) { rule(11, line - start < 60, "a method of more than 60 lines ends in line " + line); start = 0; }
    }
  }

  public static void main(String[] args) throws Exception {
    face();
    text(Files.readString(Path.of(System.getProperty("project", "."), "src/main/java/ShallowBoxes.java")));
    System.out.println(wrong == 0 ? "language: no rule is broken" : wrong + " rules are broken");
    if (wrong != 0) System.exit(1);
  }
}
