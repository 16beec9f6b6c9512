/** Each promise by itself, with answers that were worked out by hand from the document. */
public final class PromiseTest {
  interface Call { long answer(); }
  private static int wrong = 0;
  private static int promise = 0;
  private static int count = 0;

  private static void due(long want, Call call) {
    count++;
    String got;
    try {
      long answer = call.answer();
      if (answer == want) return;
      got = "" + answer;
    } catch (RuntimeException e) {
      got = e.toString();
    }
    wrong++;
    System.out.println("promise " + promise + ", line " + line() + ": answered " + got + ", due is " + want);
  }

  private static void refused(Class<?> kind, Call call) {
    count++;
    String got;
    try {
      got = "" + call.answer();
    } catch (RuntimeException e) {
      if (e.getClass() == kind) return;
      got = e.toString();
    }
    wrong++;
    System.out.println("promise " + promise + ", line " + line() + ": answered " + got + ", due is " + kind.getName());
  }

  private static int line() { return new Throwable().getStackTrace()[2].getLineNumber(); }

  private static final Class<?> INDEX = IndexOutOfBoundsException.class;
  private static final Class<?> ARGUMENT = IllegalArgumentException.class;
  private static final Class<?> STATE = IllegalStateException.class;
  private static final int NONE = -1;

  /** Squares of 10 by 10 cells on the upper edge. */
  private static ShallowBoxes row(int... x1) {
    ShallowBoxes x = new ShallowBoxes();
    for (int a : x1) x.add(a, 0, a + 9, 9);
    return x;
  }

  /** The root over the nodes 1: {2, 1, 6}, 2: {0, 5}, 3: {4, 3}. */
  private static ShallowBoxes seven() { return row(0, 20, 40, 60, 80, 10, 30); }

  /** The root over the nodes 1: {0, 2, 1} with the box 0 to 49, 2: {4, 6} with the box 30 to 89. */
  private static ShallowBoxes five() {
    ShallowBoxes x = seven();
    x.remove(5);
    x.remove(3);
    return x;
  }

  private static ShallowBoxes full() {
    ShallowBoxes x = new ShallowBoxes();
    for (int i = 0; i < 24; i++) x.add(4 * i, 4 * i, 4 * i + 1, 4 * i + 1);
    return x;
  }

  private static ShallowBoxes typed(String text) {
    ShallowBoxes x = new ShallowBoxes();
    type(x, text);
    return x;
  }

  private static void type(ShallowBoxes x, String text) { for (char c : text.toCharArray()) x.append(c); }

  private static void node(ShallowBoxes x, int n, int level, int above, int x1, int y1, int x2, int y2, int... entries) {
    int[] all = {level, entries.length, x1, y1, x2, y2, above};
    for (int w = 0; w < 7; w++) { int what = w; due(all[w], () -> x.node(n, what)); }
    for (int k = 0; k < entries.length; k++) { int which = k; due(entries[k], () -> x.entry(n, which)); }
    due(NONE, () -> x.entry(n, entries.length));
  }

  private static void about(ShallowBoxes x, int... all) { for (int w = 0; w < 8; w++) { int what = w; due(all[w], () -> x.about(what)); } }

  private static void promise1() {
    ShallowBoxes x = new ShallowBoxes();
    about(x, 0, 1, 0, 0, 0, 0, 0, 0);
    node(x, 0, 0, NONE, NONE, NONE, NONE, NONE);
    refused(INDEX, () -> x.node(1, 0));
    refused(INDEX, () -> x.rectangle(0, 0));
    refused(STATE, x::undo);
    refused(STATE, () -> x.restore(0));
    due(0, x::clearText);
    due(NONE, () -> ShallowBoxes.NONE);
  }

  private static void promise2() {
    ShallowBoxes x = new ShallowBoxes();
    refused(ARGUMENT, () -> x.append(-1));
    refused(ARGUMENT, () -> x.append(256));
    due(1, () -> x.append(0));
    due(2, () -> x.append(255));
    for (int i = 3; i <= 100; i++) { int n = i; due(n, () -> x.append('7')); }
    refused(STATE, () -> x.append('7'));
    refused(ARGUMENT, () -> x.append(256));
    refused(ARGUMENT, () -> x.append(Integer.MIN_VALUE));
    due(100, x::clearText);
  }

  private static void promise3() {
    ShallowBoxes x = typed("0,0:1x1");
    due(7, x::clearText);
    due(0, x::clearText);
    due(1, () -> x.append('5'));
    due(1, x::errorPosition);
  }

  private static void promise4() {
    String[] right = {"0,0:1x1", "99,99:1x1", "0,0:100x100", "50,0:50x1", "50,0:6x9", "10,20:30x40;0,0:9x10;1,1:99x99"};
    for (String t : right) due(NONE, () -> typed(t).errorPosition());
    Object[][] faults = {{"", 0}, {"0", 1}, {"00", 1}, {"05,1", 1}, {"100,0", 2}, {"99", 2}, {",", 0}, {"-1", 0}, {"5:", 1}, {"5,", 2}, {"5,100", 4},
      {"0,0:0", 4}, {"0,0:101x1", 6}, {"0,0:110", 6}, {"0,0:1000", 7}, {"99,99:2x1", 6}, {"99,99:1x2", 8}, {"99,99:11", 7}, {"50,0:51x1", 6}, {"95,0:6x1", 5},
      {"0,0:1X1", 5}, {"0,0:1x", 6}, {"0,0:1x0", 6}, {"0,0:1x1;", 8}, {"0,0:1x1;;", 8}, {"0,0:1x1 ", 7}, {"0,0:1x1,", 7}, {"0,0:1x1x", 7}, {"0,0:1x1;0,0:0", 12},
      {"0,60:1x41", 8}, {"0,60:41x40;", 11}, {"\u00ff", 0}, {"0,0;1x1", 3}, {"0,0:1x1;100", 10}, {" 0", 0}};
    for (Object[] f : faults) due((Integer) f[1], () -> typed((String) f[0]).errorPosition());
    ShallowBoxes x = typed("0,0:1x1");
    due(NONE, x::errorPosition);
    due(NONE, x::errorPosition);
    x.append(';');
    due(8, x::errorPosition);
  }

  private static void promise5() {
    about(row(0, 20, 40, 60, 80), 5, 3, 1, 0, 800, 0, 1, 0);
    about(seven(), 7, 4, 1, 0, 800, 1, 2, 0);
    about(five(), 5, 3, 1, 200, 1100, 1, 3, 2);
    refused(ARGUMENT, () -> five().about(-1));
    refused(ARGUMENT, () -> five().about(8));
  }

  private static void promise6() {
    ShallowBoxes x = five();
    due(20, () -> x.rectangle(1, 0));
    due(0, () -> x.rectangle(1, 1));
    due(29, () -> x.rectangle(1, 2));
    due(9, () -> x.rectangle(1, 3));
    due(1, () -> x.rectangle(1, 4));
    due(2, () -> x.rectangle(6, 4));
    refused(INDEX, () -> x.rectangle(3, 0));
    refused(INDEX, () -> x.rectangle(-1, 0));
    refused(INDEX, () -> x.rectangle(24, 0));
    refused(INDEX, () -> x.rectangle(Integer.MAX_VALUE, 9));
    refused(ARGUMENT, () -> x.rectangle(1, 5));
    refused(ARGUMENT, () -> x.rectangle(1, -1));
  }

  private static void promise7() {
    ShallowBoxes x = seven();
    node(x, 0, 1, NONE, 0, 0, 89, 9, 1, 2, 3);
    node(x, 1, 0, 0, 20, 0, 49, 9, 2, 1, 6);
    node(x, 2, 0, 0, 0, 0, 19, 9, 0, 5);
    node(x, 3, 0, 0, 60, 0, 89, 9, 4, 3);
    refused(INDEX, () -> x.node(4, 0));
    refused(INDEX, () -> x.node(-1, 9));
    refused(ARGUMENT, () -> x.node(0, 7));
    refused(ARGUMENT, () -> x.node(0, -1));
  }

  private static void promise8() {
    ShallowBoxes x = seven();
    due(3, () -> x.entry(0, 2));
    due(4, () -> x.entry(3, 0));
    due(NONE, () -> x.entry(3, 2));
    due(NONE, () -> x.entry(1, Integer.MAX_VALUE));
    refused(ARGUMENT, () -> x.entry(1, -1));
    refused(INDEX, () -> x.entry(4, -1));
    refused(INDEX, () -> x.entry(-1, 0));
    refused(INDEX, () -> x.entry(Integer.MIN_VALUE, 0));
  }

  private static void promise9() {
    ShallowBoxes x = five();
    due(3, () -> x.add(0, 0, 99, 99));
    due(5, () -> x.add(99, 99, 99, 99));
    due(7, () -> x.add(0, 0, 0, 0));
    int[][] bad = {{-1, 0, 5, 5}, {0, -1, 5, 5}, {6, 0, 5, 5}, {0, 6, 5, 5}, {0, 0, 100, 5}, {0, 0, 5, 100}, {100, 0, 100, 0},
      {Integer.MIN_VALUE, 0, Integer.MAX_VALUE, 5}};
    for (int[] b : bad) refused(ARGUMENT, () -> x.add(b[0], b[1], b[2], b[3]));
    ShallowBoxes y = full();
    refused(STATE, () -> y.add(0, 0, 0, 0));
    refused(ARGUMENT, () -> y.add(0, 0, 0, 100));
    due(24, () -> y.about(0));
    // Equal rectangles: the first entry is thrown out or chosen, and the seeds are the first pair.
    ShallowBoxes z = row(0, 0, 0, 0, 0);
    node(z, 1, 0, 0, 0, 0, 9, 9, 0, 2, 4);
    node(z, 2, 0, 0, 0, 0, 9, 9, 1, 3);
    z.add(0, 0, 9, 9);
    node(z, 1, 0, 0, 0, 0, 9, 9, 0, 2, 4, 5);
    z.add(0, 0, 9, 9);
    // 0 is thrown out and comes back to the same node, which is split with 2 and 4 as seeds.
    node(z, 1, 0, 0, 0, 0, 9, 9, 2, 5, 0);
    node(z, 2, 0, 0, 0, 0, 9, 9, 4, 6);
    node(z, 3, 0, 0, 0, 0, 9, 9, 1, 3);
    due(1, () -> z.about(5));
  }

  private static void promise10() {
    ShallowBoxes x = five();
    refused(STATE, x::addAll);
    type(x, "0,0:10x10;99,99:1x1");
    due(7, x::addAll);
    due(9, () -> x.rectangle(3, 3));
    due(99, () -> x.rectangle(5, 0));
    due(9, x::addAll);
    due(NONE, x::errorPosition);
    due(19, x::clearText);
    due(10, x::undo);
    due(7, () -> x.about(0));
    type(x, "0,0:1x1;");
    refused(STATE, x::addAll);
    ShallowBoxes y = full();
    y.remove(3);
    type(y, "0,0:1x1;1,1:1x1");
    refused(STATE, y::addAll);
    due(23, () -> y.about(0));
    y.remove(5);
    due(24, y::addAll);
    due(0, () -> y.rectangle(3, 0));
    due(1, () -> y.rectangle(5, 0));
    // A level throws out once in the whole call: the first five are split, 1 and 2 go into the
    // first node, which throws 0 out, takes it back and is split; the next full node is split at once.
    ShallowBoxes z = typed("0,0:10x10;0,0:10x10;0,0:10x10;0,0:10x10;0,0:10x10;0,0:10x10;0,0:10x10;0,0:10x10;0,0:10x10");
    due(9, z::addAll);
    due(1, () -> z.about(5));
    due(3, () -> z.about(6));
    due(0, z::undo);
    due(0, () -> z.about(0));
  }

  private static void promise11() {
    ShallowBoxes x = seven();
    refused(INDEX, () -> x.remove(7));
    refused(INDEX, () -> x.remove(-1));
    refused(INDEX, () -> x.remove(24));
    due(3, () -> x.remove(5));
    node(x, 1, 0, 0, 0, 0, 49, 9, 2, 1, 6, 0);
    node(x, 2, 0, 0, 60, 0, 89, 9, 4, 3);
    due(1, () -> x.about(7));
    refused(INDEX, () -> x.remove(5));
    // The root of the level 1 gives way, and the rectangle that was kept apart splits the new root.
    due(3, () -> x.remove(3));
    node(x, 0, 1, NONE, 0, 0, 89, 9, 1, 2);
    node(x, 1, 0, 0, 0, 0, 49, 9, 0, 2, 1);
    node(x, 2, 0, 0, 30, 0, 89, 9, 4, 6);
    ShallowBoxes y = row(7);
    due(1, () -> y.remove(0));
    node(y, 0, 0, NONE, NONE, NONE, NONE, NONE);
    // Nodes that went away can be had again, however often.
    ShallowBoxes z = row(0, 20, 40, 60);
    for (int i = 0; i < 100; i++) {
      due(4, () -> z.add(80, 0, 89, 9));
      due(1, () -> z.remove(4));
    }
    due(4, () -> z.add(80, 0, 89, 9));
    due(100, () -> z.about(7));
    due(101, () -> z.about(6));
    due(3, () -> z.about(1));
  }

  private static void promise12() {
    ShallowBoxes x = five();
    due(1, () -> x.move(2, 0, 50));
    node(x, 1, 0, 0, 0, 0, 49, 59, 0, 1, 2);
    due(2, () -> x.move(2, 10, -50));
    node(x, 1, 0, 0, 0, 0, 29, 9, 0, 1);
    node(x, 2, 0, 0, 30, 0, 89, 9, 4, 6, 2);
    due(2, () -> x.move(4, 0, 0));
    due(4, () -> x.entry(2, 2));
    refused(INDEX, () -> x.move(3, 0, 0));
    refused(INDEX, () -> x.move(-1, 100, 0));
    refused(ARGUMENT, () -> x.move(0, 100, 0));
    refused(ARGUMENT, () -> x.move(0, -100, 0));
    refused(ARGUMENT, () -> x.move(0, -1, 100));
    refused(ARGUMENT, () -> x.move(0, 0, Integer.MIN_VALUE));
    refused(STATE, () -> x.move(0, -1, 0));
    refused(STATE, () -> x.move(0, 91, 0));
    refused(STATE, () -> x.move(0, 0, -1));
    refused(STATE, () -> x.move(0, 0, 91));
    due(2, () -> x.move(0, 90, 90));
    due(99, () -> x.rectangle(0, 2));
    ShallowBoxes y = new ShallowBoxes();
    y.add(0, 0, 0, 0);
    due(0, () -> y.move(0, 99, 99));
    due(0, () -> y.move(0, -99, -99));
    due(0, () -> y.rectangle(0, 0));
  }

  private static void promise13() {
    ShallowBoxes x = row(0, 20, 40, 60);
    refused(STATE, () -> x.move(0, -1, 0));
    due(3, x::undo);
    due(3, () -> x.about(0));
    x.append('7');
    x.save(0);
    due(2, x::undo);
    due(1, x::undo);
    due(0, x::undo);
    due(0, () -> x.about(0));
    refused(STATE, x::undo);
    due(1, x::clearText);
    ShallowBoxes y = row(0, 1, 2, 3, 4, 5, 6, 7, 8, 9, 10, 11, 12, 13, 14, 15);
    for (int left = 13; left >= 0; left--) { int n = left; due(n, y::undo); }
    refused(STATE, y::undo);
    due(2, () -> y.about(0));
    ShallowBoxes z = five();
    z.move(0, 0, 0);
    z.undo();
    about(z, 5, 3, 1, 200, 1100, 1, 3, 2);
    z.undo();
    about(z, 6, 3, 1, 0, 800, 1, 2, 1);
  }

  private static void promise14() {
    ShallowBoxes x = five();
    due(71, () -> x.window(0, 0, 45, 0));
    due(16, () -> x.window(89, 9, 99, 99));
    due(0, () -> x.window(90, 0, 99, 99));
    due(0, () -> x.window(0, 10, 99, 99));
    due(87, () -> x.window(0, 0, 99, 99));
    due(0xffffff, () -> full().window(0, 0, 99, 99));
    int[][] bad = {{-1, 0, 5, 5}, {0, -1, 5, 5}, {6, 0, 5, 5}, {0, 6, 5, 5}, {0, 0, 100, 5}, {0, 0, 5, 100}};
    for (int[] b : bad) {
      refused(ARGUMENT, () -> x.window(b[0], b[1], b[2], b[3]));
      refused(ARGUMENT, () -> x.looks(b[0], b[1], b[2], b[3]));
      refused(ARGUMENT, () -> x.chosen(b[0], b[1], b[2], b[3]));
      refused(ARGUMENT, () -> x.ifAdded(b[0], b[1], b[2], b[3]));
      refused(ARGUMENT, () -> full().ifAdded(b[0], b[1], b[2], b[3]));
    }
  }

  private static void promise15() {
    ShallowBoxes x = five();
    due(2, () -> x.looks(0, 0, 5, 5));
    due(3, () -> x.looks(30, 0, 49, 9));
    due(3, () -> x.looks(49, 9, 49, 9));
    due(2, () -> x.looks(50, 9, 50, 9));
    due(1, () -> x.looks(0, 50, 99, 99));
    due(1, () -> new ShallowBoxes().looks(0, 0, 99, 99));
    due(1, () -> row(5).looks(90, 90, 99, 99));
  }

  private static void promise16() {
    ShallowBoxes x = five();
    int[] ranks = {1, 0, 6, 2, 4, NONE};
    for (int k = 0; k < 6; k++) { int n = k; due(ranks[n], () -> x.nearest(15, 5, n)); }
    due(NONE, () -> x.nearest(15, 5, Integer.MAX_VALUE));
    due(0, () -> row(50, 50, 50).nearest(0, 0, 0));
    due(1, () -> row(50, 50, 50).nearest(55, 5, 1));
    ShallowBoxes y = new ShallowBoxes();
    y.add(8, 0, 8, 0);
    y.add(5, 5, 9, 9);
    // The squares of the distances are 64 and 50; the sums of the differences are 8 and 10.
    due(1, () -> y.nearest(0, 0, 0));
    refused(ARGUMENT, () -> x.nearest(-1, 0, 0));
    refused(ARGUMENT, () -> x.nearest(100, 0, 0));
    refused(ARGUMENT, () -> x.nearest(0, -1, 0));
    refused(ARGUMENT, () -> x.nearest(0, 100, 0));
    refused(ARGUMENT, () -> x.nearest(0, 0, -1));
  }

  private static void promise17() {
    ShallowBoxes x = five();
    due(1, () -> x.chosen(45, 0, 45, 0));
    due(2, () -> x.chosen(50, 0, 50, 0));
    due(2, () -> x.chosen(99, 99, 99, 99));
    due(1, () -> x.chosen(0, 0, 0, 99));
    due(0, () -> new ShallowBoxes().chosen(0, 0, 99, 99));
    due(0, () -> row(0).chosen(0, 0, 99, 99));
    due(5, () -> x.about(0));
    ShallowBoxes y = full();
    for (int i = 0; i < 24; i++) {
      int c = 4 * i;
      due(0, () -> y.node(y.chosen(c, c, c, c), 0));
    }
  }

  private static void promise18() {
    ShallowBoxes x = five();
    due(10, () -> x.ifAdded(50, 0, 50, 20));
    due(0, () -> x.ifAdded(50, 0, 50, 0));
    due(0, () -> x.ifAdded(0, 0, 0, 99));
    due(-100001, () -> full().ifAdded(0, 0, 0, 0));
    about(x, 5, 3, 1, 200, 1100, 1, 3, 2);
  }

  private static void promise19() {
    ShallowBoxes x = five();
    due(2, x::bestRemoval);
    about(x, 5, 3, 1, 200, 1100, 1, 3, 2);
    due(NONE, () -> new ShallowBoxes().bestRemoval());
    due(0, () -> row(3, 4, 5).bestRemoval());
    ShallowBoxes y = row(3, 4, 5);
    y.remove(0);
    due(1, y::bestRemoval);
  }

  private static void promise20() {
    due(200, () -> five().anew());
    due(0, () -> new ShallowBoxes().anew());
    due(0, () -> seven().anew());
    ShallowBoxes x = five();
    x.move(2, 0, 50);
    x.move(2, 0, -50);
    due(200, x::anew);
    about(x, 5, 3, 1, 0, 900, 1, 3, 2);
  }

  private static void scripts(ShallowBoxes x, int want, long... commands) {
    for (long c : commands) due(want, () -> x.runScript(1, c));
  }

  private static void promise21() {
    ShallowBoxes x = five();
    scripts(x, NONE, 100000000, 190900909, 199990000, 112340505);
    scripts(x, 0, 199990100, 199990001, 150509900);
    scripts(full(), 0, 100000000);
    // Five squares of all cells, in two nodes, have an overlap of 10000.
    ShallowBoxes wide = new ShallowBoxes();
    for (int i = 0; i < 5; i++) wide.add(0, 0, 99, 99);
    scripts(wide, NONE, 600010000);
    scripts(wide, 0, 600009999);
    scripts(x, NONE, 200000000, 206000000);
    scripts(x, 0, 203000000, 224000000, 299000000, 200000001, 200100000, 206000100);
    scripts(x, NONE, 300909000, 302005000, 306000000);
    scripts(x, 0, 300910000, 300009100, 303000000, 300000001, 300000010);
    scripts(x, NONE, 400000000, 402400000, 406300000);
    scripts(x, 0, 400010000, 402410000, 402400100, 403000000, 400000001);
    scripts(x, NONE, 500000003, 500000099);
    scripts(x, 0, 500000002, 500000103, 510000003);
    scripts(x, NONE, 600000200, 600099999);
    scripts(x, 0, 600000199, 600100200, 610000200, 600000000);
    scripts(x, NONE, 715050100, 799990400);
    scripts(x, 0, 715050000, 715050101, 715050300, 715052400, 715059900);
    scripts(x, NONE, 800000000, 809090000, 820000100, 839090600);
    scripts(x, 0, 810000000, 809100000, 809090001, 860000300, 800002400, 800009900);
    scripts(x, 0, 0, 900000000, 999999999, 1, 99999999);
    // The second command is the lower group; each works on what the first one has left.
    due(NONE, () -> x.runScript(2, 202000000600000000L));
    due(1, () -> x.runScript(2, 202000000202000000L));
    due(0, () -> x.runScript(2, 202000000L));
    due(NONE, () -> x.runScript(2, 199990000899990300L));
    due(0, () -> x.runScript(2, 999999999999999999L));
    refused(ARGUMENT, () -> x.runScript(0, 0));
    refused(ARGUMENT, () -> x.runScript(3, 0));
    refused(ARGUMENT, () -> x.runScript(1, -1));
    refused(ARGUMENT, () -> x.runScript(1, 1000000000L));
    refused(ARGUMENT, () -> x.runScript(2, 1000000000000000000L));
    refused(ARGUMENT, () -> x.runScript(2, Long.MIN_VALUE));
    refused(ARGUMENT, () -> x.runScript(2, Long.MAX_VALUE));
    // Of several that are nearest, nearest() answers the lowest number.
    scripts(row(50, 50), NONE, 700000000);
    scripts(row(50, 50), 0, 700000100);
    about(x, 5, 3, 1, 200, 1100, 1, 3, 2);
  }

  private static void promise22() {
    ShallowBoxes x = new ShallowBoxes();
    // r is 167951807 (adds), 218396424 (would remove 18), 1299921937 (adds).
    due(1001, () -> x.simulate(0, 1));
    due(1001, () -> x.simulate(0, 2));
    due(1002, () -> x.simulate(0, 3));
    // r is 1649717740: with no rectangle it adds, with one it would remove 19, with 24 it removes 19.
    due(1001, () -> x.simulate(2, 1));
    due(1001, () -> row(0).simulate(2, 1));
    ShallowBoxes y = full();
    int nodes = full().remove(19);
    due(1000 * nodes + 23, () -> y.simulate(2, 1));
    // r is 167951807: 23 is removed from 24.
    ShallowBoxes z = full();
    int left = full().remove(23);
    due(1000 * left + 23, () -> z.simulate(0, 1));
    refused(ARGUMENT, () -> x.simulate(0, 0));
    refused(ARGUMENT, () -> x.simulate(0, 61));
    refused(ARGUMENT, () -> x.simulate(0, -1));
    due(x.simulate(-5, 60), () -> x.simulate(-5, 60));
    due(0, () -> x.about(0));
    refused(STATE, x::undo);
  }

  private static void promise23() {
    ShallowBoxes x = five();
    due(5, () -> x.save(0));
    x.remove(0);
    due(4, () -> x.save(1));
    refused(INDEX, () -> x.save(2));
    refused(INDEX, () -> x.save(-1));
    x.add(0, 90, 9, 99);
    due(5, () -> x.restore(0));
    about(x, 5, 3, 1, 200, 1100, 1, 3, 2);
    due(4, () -> x.restore(1));
    due(4, () -> x.save(0));
    due(4, () -> x.restore(0));
    // save is no action.
    ShallowBoxes y = row(1);
    y.save(0);
    due(0, y::undo);
  }

  private static void promise24() {
    ShallowBoxes x = five();
    refused(STATE, () -> x.restore(0));
    x.save(1);
    refused(STATE, () -> x.restore(0));
    refused(INDEX, () -> x.restore(2));
    refused(INDEX, () -> x.restore(-1));
    due(9, () -> { x.remove(0); return x.undo(); });
    x.remove(0);
    type(x, "abc");
    due(5, () -> x.restore(1));
    refused(STATE, x::undo);
    about(x, 5, 3, 1, 200, 1100, 1, 3, 2);
    node(x, 1, 0, 0, 0, 0, 49, 9, 0, 2, 1);
    due(3, x::clearText);
    x.remove(0);
    due(0, x::undo);
    x.remove(0);
    due(5, () -> x.restore(1));
    due(5, () -> x.restore(1));
  }

  public static void main(String[] args) {
    Runnable[] all = {PromiseTest::promise1, PromiseTest::promise2, PromiseTest::promise3, PromiseTest::promise4, PromiseTest::promise5,
      PromiseTest::promise6, PromiseTest::promise7, PromiseTest::promise8, PromiseTest::promise9, PromiseTest::promise10, PromiseTest::promise11,
      PromiseTest::promise12, PromiseTest::promise13, PromiseTest::promise14, PromiseTest::promise15, PromiseTest::promise16,
      PromiseTest::promise17, PromiseTest::promise18, PromiseTest::promise19, PromiseTest::promise20, PromiseTest::promise21,
      PromiseTest::promise22, PromiseTest::promise23, PromiseTest::promise24};
    for (Runnable one : all) {
      promise++;
      one.run();
    }
    System.out.println("promises: " + count + " answers, " + wrong + " of them wrong");
    if (wrong != 0) System.exit(1);
  }
}
