import java.nio.file.Files;
import java.nio.file.Path;
import java.util.ArrayList;
import java.util.List;
import java.util.function.Supplier;

/** Tests that are named by the words of the document which they hold the class to. */
final class Sentences {
  interface Call { long answer(); }
  interface Ask { long of(ShallowBoxes x); }
  interface Test { void run() throws Exception; }

  static final Class<?> INDEX = IndexOutOfBoundsException.class;
  static final Class<?> ARGUMENT = IllegalArgumentException.class;
  static final Class<?> STATE = IllegalStateException.class;
  static final int NONE = -1;

  private static List<String> document = new ArrayList<>();
  private static final List<String> sections = new ArrayList<>();
  private static String section = "";
  private static String sectionText = "";
  private static List<String> unquoted = new ArrayList<>();
  private static String words = "";
  static int sentences = 0, answers = 0, wrong = 0;

  private Sentences() { }

  /** Without the document the tests are run all the same; only their words are not looked up. */
  static void read(Path path) throws Exception {
    if (Files.isReadable(path)) document = Files.readAllLines(path);
    else System.out.println("edges: there is no " + path + ", the quotes are not looked up");
  }

  /** Each promise of the document must have had its part. */
  static void allPromises() {
    for (String line : document) {
      if (line.startsWith("## Promise ") && !sections.contains(line.substring(3))) fault("no tests for " + line.substring(3));
    }
  }

  private static boolean isHeading(String line) { return line.startsWith("#") || line.matches("[A-Z][A-Z ]+"); }

  /** Begins the tests of a part of the document, by its heading. */
  static void section(String heading) {
    end();
    section = heading;
    sections.add(heading);
    StringBuilder text = new StringBuilder();
    List<String> lines = new ArrayList<>();
    boolean in = false;
    for (String line : document) {
      if (isHeading(line)) in = line.replaceFirst("^#+ ", "").equals(heading);
      else if (in) { text.append(line).append(' '); lines.add(line); }
    }
    sectionText = flat(text.toString());
    if (sectionText.isEmpty() && !document.isEmpty()) fault("the document has no such heading");
    if (heading.startsWith("Promise")) {
      for (String line : lines) if (line.matches("(Throws|Returns|- ).*") || line.matches("`int .*")) unquoted.add(flat(line));
    } else {
      for (String one : sectionText.split("(?<=\\.) ")) if (!one.matches("Ahead of the calls .* the interface says: ---- [a-z ,]+\\.")) unquoted.add(one);
    }
  }

  private static String flat(String text) { return text.replaceAll("\\s+", " ").trim(); }

  /** Ends a part: each of its sentences must have been quoted by a test. */
  static void end() {
    words = "";
    for (String left : unquoted) fault("no test for: " + left);
    unquoted.clear();
    section = "";
  }

  /** One test of one sentence; its words must stand in the part that was begun. */
  static void sentence(String quote, Test test) {
    sentences++;
    words = flat(quote);
    if (!sectionText.contains(words) && !document.isEmpty()) fault("the document does not say this");
    unquoted.removeIf(piece -> piece.contains(words) || words.contains(piece));
    try {
      test.run();
    } catch (Exception e) {
      fault("the test threw " + e);
    }
  }

  static void fault(String what) {
    wrong++;
    System.out.println(section + " | " + words + " | line " + line() + ": " + what);
  }

  private static int line() {
    int last = 0;
    for (StackTraceElement e : new Throwable().getStackTrace()) {
      if (e.getClassName().endsWith("Edges") && last == 0) last = e.getLineNumber();
    }
    return last;
  }

  static void due(long want, Call call) {
    answers++;
    String got = told(call);
    if (!got.equals("" + want)) fault("answered " + got + ", due is " + want);
  }

  static void due(String want, String got) {
    answers++;
    if (!got.equals(want)) fault("is " + got + ", due is " + want);
  }

  private static String told(Call call) {
    try {
      return "" + call.answer();
    } catch (RuntimeException e) {
      return e.getClass().getName();
    }
  }

  /** The call throws this exception; what it leaves behind is not looked at. */
  static void thrown(Class<?> kind, Call call) {
    due(kind.getName(), told(call));
  }

  /** The call is refused with this exception, and everything is as it was before. */
  static void refused(Class<?> kind, Supplier<ShallowBoxes> before, Ask call) {
    thrown(kind, () -> call.of(before.get()));
    sameBehind(before, call);
  }

  /** The call throws nothing, and everything is as it was before. */
  static void changesNothing(Supplier<ShallowBoxes> before, Ask call) {
    due("fine", told(() -> call.of(before.get())).matches("-?[0-9]+") ? "fine" : "an exception");
    sameBehind(before, call);
  }

  /** Behind the call each look at the object sees what it sees without the call. */
  private static void sameBehind(Supplier<ShallowBoxes> before, Ask call) {
    for (int look = 0; look < Looks.KINDS; look++) {
      ShallowBoxes x = before.get();
      told(() -> call.of(x));
      String with = Looks.at(x, look), without = Looks.at(before.get(), look);
      answers++;
      if (!with.equals(without)) fault("something is different behind the call:\n  " + with + "\n  " + without);
    }
  }
}
