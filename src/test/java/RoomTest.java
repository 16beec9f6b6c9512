import com.sun.management.ThreadMXBean;
import java.lang.management.ManagementFactory;
import java.lang.reflect.Array;
import java.lang.reflect.Field;
import java.lang.reflect.Modifier;
import java.util.IdentityHashMap;
import java.util.Map;

/** What an object takes of the room: little when it is made, and nothing more by its calls. */
public final class RoomTest {
  private static int wrong = 0;

  private static void due(boolean holds, String what) {
    if (!holds) { wrong++; System.out.println(what); }
  }

  /** Counts the fields and elements of an object and of all that it holds, and gathers these. */
  private static int gather(Object o, Map<Object, Object> found) throws Exception {
    if (o == null || found.put(o, o) != null) return 0;
    int places = 0;
    if (o.getClass().isArray()) {
      for (int i = 0; i < Array.getLength(o); i++) {
        places++;
        if (!o.getClass().getComponentType().isPrimitive()) places += gather(Array.get(o, i), found);
      }
      return places;
    }
    for (Field f : o.getClass().getDeclaredFields()) {
      if (Modifier.isStatic(f.getModifiers())) continue;
      f.setAccessible(true);
      places++;
      if (!f.getType().isPrimitive()) places += gather(f.get(o), found);
    }
    return places;
  }

  private static final ThreadMXBean MACHINE = (ThreadMXBean) ManagementFactory.getThreadMXBean();

  private static long made() {
    return MACHINE.getThreadAllocatedBytes(Thread.currentThread().getId());
  }

  private static long most = 0;
  private static String dearest = "";

  private static void note(String call, long before) {
    long bytes = made() - before;
    if (bytes > most) { most = bytes; dearest = call; }
  }

  /** Every kind of call, on few and on many rectangles. */
  private static void use(ShallowBoxes x) {
    long before;
    for (int i = 0; i < 30; i++) {
      int p = (i * 37 + 11) % 90, q = (i * 53 + 77) % 90;
      if (i < 24) { before = made(); x.add(p, q, p + i % 10, q + i % 7); note("add", before); }
      if (i % 3 == 0) { before = made(); x.move(i % 24, p < 45 ? 1 : -1, 0); note("move", before); }
      before = made(); x.simulate(i * 7919L, 60); note("simulate", before);
      before = made(); x.runScript(2, 201000000100000909L); note("runScript", before);
      before = made(); x.bestRemoval(); note("bestRemoval", before);
      before = made(); x.anew(); note("anew", before);
      if (i < 23) { before = made(); x.ifAdded(p, q, p, q); note("ifAdded", before); }
    }
    before = made(); x.chosen(1, 1, 2, 2); note("chosen", before);
    before = made(); x.window(1, 1, 50, 50); note("window", before);
    before = made(); x.looks(1, 1, 50, 50); note("looks", before);
    before = made(); x.nearest(1, 1, 3); note("nearest", before);
    for (int what = 0; what < 8; what++) { before = made(); x.about(what); note("about", before); }
    for (int what = 0; what < 5; what++) { before = made(); x.rectangle(5, what); note("rectangle", before); }
    for (int what = 0; what < 7; what++) { before = made(); x.node(1, what); note("node", before); }
    before = made(); x.entry(0, 1); note("entry", before);
    before = made(); x.save(1); note("save", before);
    for (int i = 0; i < 12; i++) { before = made(); x.remove(2 * i); note("remove", before); }
    for (int i = 0; i < 5; i++) { before = made(); x.undo(); note("undo", before); }
    String text = "0,0:1x1;90,90:10x10";
    for (int i = 0; i < text.length(); i++) { before = made(); x.append(text.charAt(i)); note("append", before); }
    before = made(); x.errorPosition(); note("errorPosition", before);
    before = made(); x.addAll(); note("addAll", before);
    before = made(); x.clearText(); note("clearText", before);
    before = made(); x.restore(1); note("restore", before);
  }

  public static void main(String[] args) throws Exception {
    ShallowBoxes x = new ShallowBoxes();
    Map<Object, Object> atFirst = new IdentityHashMap<>();
    int places = gather(x, atFirst);
    due(atFirst.size() <= 300, "a new object holds " + atFirst.size() + " objects and arrays");
    due(places <= 15000, "a new object holds " + places + " fields and elements");
    use(x);
    Map<Object, Object> atLast = new IdentityHashMap<>();
    due(gather(x, atLast) == places, "an object that was used holds another number of fields and elements");
    due(atLast.size() == atFirst.size() && atFirst.keySet().containsAll(atLast.keySet()), "an object that was used holds other objects");
    boolean counted = MACHINE.isThreadAllocatedMemorySupported() && MACHINE.isThreadAllocatedMemoryEnabled();
    // The machine itself may make something once, but what a call makes it makes each time.
    long least = Long.MAX_VALUE;
    for (int round = 0; round < 5; round++) {
      most = 0;
      use(new ShallowBoxes());
      least = Math.min(least, most);
    }
    if (counted) due(least == 0, dearest + " made objects, of " + least + " bytes");
    System.out.println("room: " + atFirst.size() + " objects and arrays, " + places + " fields and elements, " + wrong + " faults");
    if (wrong != 0) System.exit(1);
  }
}
