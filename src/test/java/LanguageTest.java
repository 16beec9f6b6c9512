import java.lang.reflect.Field;
import java.lang.reflect.Method;
import java.lang.reflect.Modifier;
import java.nio.file.Files;
import java.nio.file.Path;
import java.util.ArrayList;
import java.util.Arrays;
import java.util.List;
import java.util.Map;
import java.util.Set;
import java.util.TreeMap;
import java.util.TreeSet;
import java.util.regex.Matcher;
import java.util.regex.Pattern;

/** The rules of LANGUAGE.md that a look at the text or at the compiled class can tell. */
public final class LanguageTest {
  private static int wrong = 0;

  private static void rule(int number, boolean kept, String what) {
    if (!kept) { wrong++; System.out.println("rule " + number + ": " + what); }
  }

  // A call, and behind it A, S and X for the exceptions that it may throw: argument, state, index.
  private static final List<String> FACE = Arrays.asList("append(int) AS", "clearText() ", "errorPosition() ", "about(int) A", "rectangle(int,int) XA",
    "node(int,int) XA", "entry(int,int) XA", "add(int,int,int,int) AS", "addAll() S", "remove(int) X", "move(int,int,int) XAS", "undo() S",
    "window(int,int,int,int) A", "looks(int,int,int,int) A", "nearest(int,int,int) A", "chosen(int,int,int,int) A", "ifAdded(int,int,int,int) A",
    "bestRemoval() ", "anew() ", "runScript(int,long) A", "simulate(long,int) A", "save(int) X", "restore(int) XS");

  private static String thrown(Method m) {
    StringBuilder s = new StringBuilder();
    for (Class<?> e : m.getExceptionTypes())
      s.append(e == IllegalArgumentException.class ? 'A' : e == IllegalStateException.class ? 'S' : e == IndexOutOfBoundsException.class ? 'X' : '?');
    return s.toString();
  }

  private static String signature(Method m) {
    StringBuilder s = new StringBuilder(m.getName()).append('(');
    for (Class<?> p : m.getParameterTypes()) s.append(s.charAt(s.length() - 1) == '(' ? "" : ",").append(p.getName());
    return s.append(')').toString();
  }

  private static void face() throws Exception {
    Set<String> open = new TreeSet<>(), names = new TreeSet<>();
    for (Method m : ShallowBoxes.class.getDeclaredMethods()) {
      if (m.isSynthetic() || Modifier.isPrivate(m.getModifiers())) continue;
      open.add(signature(m) + " " + thrown(m));
      names.add(m.getName());
      rule(1, Modifier.isPublic(m.getModifiers()) && !Modifier.isStatic(m.getModifiers()) && m.getReturnType() == int.class, signature(m));
    }
    rule(1, open.equals(new TreeSet<>(FACE)), "the face is " + open);
    for (Field f : ShallowBoxes.class.getDeclaredFields())
      rule(1, Modifier.isPrivate(f.getModifiers()) || f.getName().equals("NONE"), "field " + f.getName());
    rule(1, ShallowBoxes.class.getDeclaredConstructors().length == 1 && Modifier.isFinal(ShallowBoxes.class.getModifiers()), "the class or its constructors");
    rule(1, ShallowBoxes.class.getField("NONE").getInt(null) == -1, "NONE");
    inside(ShallowBoxes.class, names);
    for (Class<?> c : ShallowBoxes.class.getDeclaredClasses()) {
      rule(1, Modifier.isStatic(c.getModifiers()) && !Modifier.isPublic(c.getModifiers()) && !Modifier.isProtected(c.getModifiers()), c.getName());
      inside(c, names);
    }
    rule(11, ShallowBoxes.class.getDeclaredClasses().length <= 11, "classes");
  }

  private static void inside(Class<?> c, Set<String> face) {
    int fields = 0;
    for (Field f : c.getDeclaredFields()) {
      if (!Modifier.isStatic(f.getModifiers())) fields++;
      else rule(5, Modifier.isFinal(f.getModifiers()) && f.getType().isPrimitive(), "static field " + f.getName());
    }
    rule(11, fields <= 20, fields + " fields in " + c.getName());
    for (Method m : c.getDeclaredMethods()) {
      rule(11, m.getParameterCount() <= 7, signature(m));
      rule(1, c == ShallowBoxes.class && Modifier.isPublic(m.getModifiers()) || !face.contains(m.getName()), "another method named " + m.getName());
    }
  }

  private static void text(String source) {
    String bare = source.replaceAll("(?s)/\\*.*?\\*/", "").replaceAll("//[^\n]*", "").replaceAll("\"[^\"\n]*\"", "\"\"");
    String[] banned = {"\\bimport\\b", "\\bpackage\\b", "->", "::", "\\bsynchronized\\b", "\\bassert\\b", "\\bfinally\\b", "\\bcatch\\b", "\\btry\\b", "\\bextends\\b",
      "Exact\\b", "\\bstatic\\s*\\{", "\"\"\\s*\\+", "\\+\\s*\"\"", "\\bhashCode\\b", "\\btoString\\b", "\\bequals\\b", "\\bgetMessage\\b", "\\bfloat\\b", "\\bdouble\\b",
      "\\bRandom\\b", "\\bnanoTime\\b", "\\bcurrentTimeMillis\\b", "\\bThread\\b", "\\bvar\\b", "@", "\\bwhile\\s*\\(\\s*true"};
    for (String b : banned) {
      Matcher m = Pattern.compile(b).matcher(bare);
      rule(4, !m.find(), "the text has " + b);
    }
    Matcher dots = Pattern.compile("\\b(Math|System|Arrays|Integer|Long|String|StringBuilder|ArrayList|List)\\.(\\w+)").matcher(bare);
    while (dots.find()) rule(4, Set.of("Math.min", "Math.max", "System.arraycopy").contains(dots.group()), dots.group());
    Matcher thrown = Pattern.compile("throw\\s+(?!new (IllegalArgument|IllegalState|IndexOutOfBounds)Exception\\(\"\"\\);)").matcher(bare);
    rule(6, !thrown.find(), "a throw of another form");
    rule(4, source.chars().allMatch(c -> c == '\n' || c >= 32 && c < 127), "another sign");
    int start = 0, line = 0;
    for (String l : source.split("\n", -1)) {
      line++;
      if (l.matches("(    |        )[\\w].*\\{")) start = line;
      if (l.matches("(    |        )\\}") && start > 0) { rule(11, line - start < 60, "a method of more than 60 lines ends in line " + line); start = 0; }
    }
  }

  // By the name of a method or constructor, the names that stand before a bracket in its body.
  private static Map<String, Set<String>> calls(String bare) {
    Map<String, Set<String>> calls = new TreeMap<>();
    String name = null;
    for (String l : bare.split("\n", -1)) {
      Matcher head = Pattern.compile("(?:    |        )(?:[\\w\\[\\]]+ )*(\\w+)\\([^)]*\\).*").matcher(l);
      if (head.matches() && !l.endsWith(";")) {
        name = head.group(1);
        calls.putIfAbsent(name, new TreeSet<>());
      } else if (name != null) {
        Matcher m = Pattern.compile("(\\w+)\\(").matcher(l);
        while (m.find()) calls.get(name).add(m.group(1));
      }
    }
    for (Set<String> names : calls.values()) names.retainAll(calls.keySet());
    return calls;
  }

  private static void chain(Map<String, Set<String>> calls, String name, List<String> open) {
    rule(8, !open.contains(name), "a recursion: " + open + " " + name);
    if (open.contains(name)) return;
    open.add(name);
    rule(11, open.size() <= 8, "calls that go too deep: " + open);
    deepest = Math.max(deepest, open.size());
    for (String next : calls.get(name)) chain(calls, next, open);
    open.remove(open.size() - 1);
  }

  private static int deepest = 0;

  private static void chains(String source) {
    Map<String, Set<String>> calls = calls(source.replaceAll("(?s)/\\*.*?\\*/", "").replaceAll("//[^\n]*", ""));
    for (String call : FACE) rule(1, calls.containsKey(call.replaceAll("\\(.*", "")), "no method is found for " + call);
    for (String name : calls.keySet()) chain(calls, name, new ArrayList<>());
    rule(11, deepest > 2, "no calls are found in the text");
  }

  public static void main(String[] args) throws Exception {
    face();
    String source = Files.readString(Path.of(System.getProperty("project", "."), "src/main/java/ShallowBoxes.java"));
    text(source);
    chains(source);
    System.out.println(wrong == 0 ? "language: no rule is broken" : wrong + " rules are broken");
    if (wrong != 0) System.exit(1);
  }
}
