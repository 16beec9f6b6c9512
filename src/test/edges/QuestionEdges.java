import java.math.BigInteger;
import java.util.function.Supplier;

/** What there is, what is asked, and what would be. */
final class QuestionEdges {
  private QuestionEdges() { }

  private static final Class<?> INDEX = Sentences.INDEX, ARGUMENT = Sentences.ARGUMENT;
  private static final int NONE = Sentences.NONE, LEAST = Integer.MIN_VALUE, MOST = Integer.MAX_VALUE;

  static void all() {
    Sentences.section("Promise 1: A new object");
    created();
    Sentences.section("Promise 5: about");
    about();
    Sentences.section("Promise 6: rectangle");
    rectangle();
    Sentences.section("Promise 7: node");
    node();
    Sentences.section("Promise 8: entry");
    entry();
    Sentences.section("Promise 14: window");
    window();
    Sentences.section("Promise 15: looks");
    looks();
    Sentences.section("Promise 16: nearest");
    nearest();
    nearestRefused();
    Sentences.section("Promise 17: chosen");
    chosen();
    Sentences.section("Promise 18: ifAdded");
    ifAdded();
    Sentences.section("Promise 19: bestRemoval");
    bestRemoval();
    Sentences.section("Promise 20: anew");
    anew();
    Sentences.section("Promise 22: simulate");
    simulate();
    simulateTurns();
    Sentences.end();
  }

  static void due(long want, Sentences.Call call) { Sentences.due(want, call); }

  static void refused(Class<?> kind, Supplier<ShallowBoxes> before, Sentences.Ask call) { Sentences.refused(kind, before, call); }

  private static void abouts(ShallowBoxes x, int... all) {
    for (int w = 0; w <= 7; w++) { int what = w; due(all[what], () -> x.about(what)); }
  }

  private static void nodes(ShallowBoxes x, int n, int... all) {
    for (int w = 0; w <= 6; w++) { int what = w; due(all[what], () -> x.node(n, what)); }
  }

  // ---- what there is

  private static void created() {
    Sentences.sentence("Creates a root without entries.", () -> {
      ShallowBoxes x = new ShallowBoxes();
      abouts(x, 0, 1, 0, 0, 0, 0, 0, 0);
      nodes(x, 0, 0, 0, NONE, NONE, NONE, NONE, NONE);
      due(0, x::errorPosition);
      due(0, x::clearText);
      Sentences.thrown(Sentences.STATE, x::undo);
      Sentences.thrown(Sentences.STATE, () -> x.restore(0));
      Sentences.thrown(Sentences.STATE, () -> x.restore(1));
      // Each object is by itself.
      ShallowBoxes y = Recipes.busyFull();
      due(24, () -> y.about(0));
      abouts(new ShallowBoxes(), 0, 1, 0, 0, 0, 0, 0, 0);
    });
  }

  private static void about() {
    Sentences.sentence("- `what`: 0: the rectangles; 1: the nodes; 2: the level of the root; 3: the overlap: the sum, for each node that is not of the level 0, and each two of its entries, of the common cells of their boxes; 4: the sum of the areas of the boxes of all nodes but the root; 5: how often an entry was thrown out so far; 6: how often a node was split so far; 7: how many nodes were dissolved so far (taken out for having fewer than 2 entries)", () -> {
      abouts(new ShallowBoxes(), 0, 1, 0, 0, 0, 0, 0, 0);
      abouts(Recipes.row(5), 1, 1, 0, 0, 0, 0, 0, 0);
      // Rectangles that overlap in a node of the level 0 are no overlap.
      abouts(Recipes.row(5, 5, 5, 5), 4, 1, 0, 0, 0, 0, 0, 0);
      abouts(Recipes.row(5, 5, 5, 5, 5), 5, 3, 1, 100, 200, 0, 1, 0);
      abouts(Recipes.of(0, 0, 99, 99, 0, 0, 99, 99, 0, 0, 99, 99, 0, 0, 99, 99, 0, 0, 99, 99), 5, 3, 1, 10000, 20000, 0, 1, 0);
      abouts(Recipes.five(), 5, 3, 1, 200, 1100, 1, 3, 2);
      // The boxes 60 to 89 and 10 to 59, then 70 to 79, 60 to 69 and 60 to 89, then 10 to 39 and 40 to 59.
      abouts(Recipes.twoLevels(), 11, 8, 2, 200, 300 + 500 + 100 + 100 + 300 + 300 + 200, 3, 5, 0);
      due(24, () -> Recipes.full().about(0));
      abouts(Recipes.removed(Recipes.row(5), 0), 0, 1, 0, 0, 0, 0, 0, 0);
    });
    Sentences.sentence("each two of its entries, of the common cells of their boxes;", () -> {
      // Three nodes with the same box are three pairs.
      ShallowBoxes x = Recipes.row(7, 7, 7, 7, 7, 7, 7);
      due(4, () -> x.about(1));
      due(300, () -> x.about(3));
      // Boxes that touch have no common cell; with a common column they have.
      due(0, () -> Recipes.row(0, 20, 40, 60, 80).about(3));
      due(10, () -> Recipes.of(0, 0, 9, 9, 20, 0, 29, 9, 40, 0, 50, 9, 50, 0, 59, 9, 80, 0, 89, 9).about(3));
    });
    Sentences.sentence("Throws `IllegalArgumentException` if what is not 0 to 7", () -> {
      for (int what : new int[] {-1, 8, LEAST, MOST}) {
        refused(ARGUMENT, Recipes.EMPTY, x -> x.about(what));
        refused(ARGUMENT, Recipes.BUSY_FULL, x -> x.about(what));
      }
    });
    Sentences.sentence("Returns that number.", () -> {
      // What was counted goes on over actions, and is 0 in no tree but a new one.
      ShallowBoxes x = Recipes.removed(Recipes.five(), 0, 1, 2, 4, 6);
      abouts(x, 0, 1, 0, 0, 0, 1, 3, 3);
    });
    Sentences.sentence("Returns a number.", () -> due(0, () -> new ShallowBoxes().about(0)));
  }

  private static void rectangle() {
    Sentences.sentence("- `i`: its number", () -> {
      for (int i : new int[] {0, 23}) due(4 * i, () -> Recipes.full().rectangle(i, 0));
      for (int i : new int[] {-1, 24, LEAST, MOST}) refused(INDEX, Recipes.BUSY_FULL, x -> x.rectangle(i, 0));
    });
    Sentences.sentence("- `what`: 0 to 3: x1, y1, x2, y2; 4: the node that it is in, as node() numbers them", () -> {
      ShallowBoxes x = Recipes.of(0, 1, 99, 98, 5, 6, 7, 8);
      int[] first = {0, 1, 99, 98, 0}, second = {5, 6, 7, 8, 0};
      for (int w = 0; w <= 4; w++) {
        int what = w;
        due(first[what], () -> x.rectangle(0, what));
        due(second[what], () -> x.rectangle(1, what));
      }
      int[] in = {4, 2, 7, 6, 6, 7, 3, 4, 2, 3, 3};
      for (int i = 0; i <= 10; i++) { int n = i; due(in[n], () -> Recipes.twoLevels().rectangle(n, 4)); }
      for (int what : new int[] {-1, 5, LEAST, MOST}) refused(ARGUMENT, Recipes.BUSY, y -> y.rectangle(0, what));
    });
    Sentences.sentence("Returns that number.", () -> due(99, () -> Recipes.of(0, 0, 99, 99).rectangle(0, 3)));
    Sentences.sentence("Returns a number of a rectangle.", () -> due(7, () -> Recipes.of(7, 8, 9, 10).rectangle(0, 0)));
    Sentences.sentence("Throws `IndexOutOfBoundsException` if there is no such rectangle", () -> {
      for (int i : new int[] {-1, 3, 5, 7, 23, 24, 48, LEAST, MOST}) {
        refused(INDEX, Recipes.BUSY, x -> x.rectangle(i, 4));
        refused(INDEX, Recipes.BUSY, x -> x.rectangle(i, 5));
      }
      refused(INDEX, Recipes.EMPTY, x -> x.rectangle(0, 0));
    });
    Sentences.sentence("Throws `IllegalArgumentException` if what is not 0 to 4", () -> {
      for (int what : new int[] {-1, 5, LEAST, MOST}) refused(ARGUMENT, Recipes.BUSY_FULL, x -> x.rectangle(23, what));
    });
  }

  private static void node() {
    Sentences.sentence("Nodes are numbered from 0: the root is 0; behind a node come all nodes below its first entry, this one first, then those below its second entry, and so on.", () -> {
      ShallowBoxes x = Recipes.twoLevels();
      int[] levels = {2, 1, 0, 0, 0, 1, 0, 0}, above = {NONE, 0, 1, 1, 1, 0, 5, 5}, first = {1, 2, 1, 9, 7, 6, 4, 2};
      for (int i = 0; i <= 7; i++) {
        int n = i;
        due(levels[n], () -> x.node(n, 0));
        due(above[n], () -> x.node(n, 6));
        due(first[n], () -> x.entry(n, 0));
      }
      due(5, () -> x.entry(0, 1));
      Sentences.thrown(INDEX, () -> x.node(8, 0));
    });
    Sentences.sentence("- `n`: its number", () -> {
      due(0, () -> new ShallowBoxes().node(0, 0));
      int last = Recipes.full().about(1) - 1;
      due(0, () -> Recipes.full().node(last, 0));
      for (int n : new int[] {-1, last + 1, LEAST, MOST}) refused(INDEX, Recipes.BUSY_FULL, x -> x.node(n, 0));
      refused(INDEX, Recipes.EMPTY, x -> x.node(1, 0));
    });
    Sentences.sentence("- `what`: 0: its level; 1: its entries; 2 to 5: x1, y1, x2, y2 of its box, NONE without entries; 6: the node whose entry it is, NONE for the root", () -> {
      nodes(new ShallowBoxes(), 0, 0, 0, NONE, NONE, NONE, NONE, NONE);
      nodes(Recipes.removed(Recipes.row(5), 0), 0, 0, 0, NONE, NONE, NONE, NONE, NONE);
      nodes(Recipes.of(0, 0, 0, 0), 0, 0, 1, 0, 0, 0, 0, NONE);
      nodes(Recipes.of(99, 98, 99, 99), 0, 0, 1, 99, 98, 99, 99, NONE);
      ShallowBoxes x = Recipes.of(0, 0, 9, 9, 20, 0, 29, 9, 40, 0, 49, 9, 60, 5, 69, 19, 80, 7, 89, 8);
      nodes(x, 0, 1, 2, 0, 0, 89, 19, NONE);
      nodes(x, 1, 0, 3, 0, 0, 49, 9, 0);
      nodes(x, 2, 0, 2, 60, 5, 89, 19, 0);
      nodes(Recipes.row(1, 2, 3, 4), 0, 0, 4, 1, 0, 13, 9, NONE);
      for (int what : new int[] {-1, 7, LEAST, MOST}) refused(ARGUMENT, Recipes.BUSY, y -> y.node(2, what));
    });
    Sentences.sentence("Returns that number.", () -> due(2, () -> Recipes.twoLevels().node(0, 0)));
    Sentences.sentence("Returns a number of a node.", () -> due(4, () -> Recipes.row(1, 2, 3, 4).node(0, 1)));
    Sentences.sentence("Throws `IndexOutOfBoundsException` if there is no such node", () -> {
      for (int n : new int[] {-1, 3, 24, LEAST, MOST}) {
        refused(INDEX, Recipes.BUSY, x -> x.node(n, 6));
        refused(INDEX, Recipes.BUSY, x -> x.node(n, 7));
      }
    });
    Sentences.sentence("Throws `IllegalArgumentException` if what is not 0 to 6", () -> {
      for (int what : new int[] {-1, 7, LEAST, MOST}) refused(ARGUMENT, Recipes.EMPTY, x -> x.node(0, what));
    });
  }

  private static void entry() {
    Sentences.sentence("- `n`: number of the node", () -> {
      int last = Recipes.full().about(1) - 1;
      due(last, () -> { ShallowBoxes x = Recipes.full(); return x.rectangle(x.entry(last, 0), 4); });
      for (int n : new int[] {-1, last + 1, LEAST, MOST}) refused(INDEX, Recipes.BUSY_FULL, x -> x.entry(n, 0));
    });
    Sentences.sentence("- `k`: which entry, from 0", () -> {
      ShallowBoxes x = Recipes.row(1, 2, 3, 4);
      for (int k = 0; k < 4; k++) { int which = k; due(which, () -> x.entry(0, which)); }
      refused(ARGUMENT, Recipes.BUSY, y -> y.entry(0, -1));
    });
    Sentences.sentence("Returns the number of the rectangle, at the level 0, otherwise of the node; NONE if there are not so many.", () -> {
      ShallowBoxes x = Recipes.twoLevels();
      int[][] all = {{1, 5}, {2, 3, 4}, {1, 8}, {9, 10, 6}, {7, 0}, {6, 7}, {4, 3}, {2, 5}};
      for (int i = 0; i < all.length; i++) {
        int n = i;
        for (int k = 0; k < all[n].length; k++) { int which = k; due(all[n][which], () -> x.entry(n, which)); }
        for (int k : new int[] {all[n].length, all[n].length + 1, 5, 1000000, MOST}) due(NONE, () -> x.entry(n, k));
      }
      for (int k : new int[] {0, 1, MOST}) due(NONE, () -> new ShallowBoxes().entry(0, k));
      for (int k : new int[] {4, 5, MOST}) due(NONE, () -> Recipes.row(1, 2, 3, 4).entry(0, k));
      // What was taken away is no entry any more.
      due(NONE, () -> Recipes.removed(Recipes.row(1, 2, 3, 4), 3).entry(0, 3));
    });
    Sentences.sentence("Returns an entry of a node.", () -> due(0, () -> Recipes.row(5).entry(0, 0)));
    Sentences.sentence("Throws `IndexOutOfBoundsException` if there is no such node", () -> {
      for (int n : new int[] {-1, 3, 24, LEAST, MOST}) {
        refused(INDEX, Recipes.BUSY, x -> x.entry(n, 0));
        refused(INDEX, Recipes.BUSY, x -> x.entry(n, -1));
      }
      refused(INDEX, Recipes.EMPTY, x -> x.entry(1, 0));
    });
    Sentences.sentence("Throws `IllegalArgumentException` if k is negative", () -> {
      for (int k : new int[] {-1, LEAST}) {
        refused(ARGUMENT, Recipes.EMPTY, x -> x.entry(0, k));
        refused(ARGUMENT, Recipes.BUSY_FULL, x -> x.entry(1, k));
      }
    });
  }

  // ---- what is asked

  private interface Box { int of(ShallowBoxes x, int x1, int y1, int x2, int y2); }

  /** The four lines that window, looks, chosen and ifAdded say of their arguments. */
  private static void corners(Box ask) {
    Sentences.sentence("- `x1`: 0 to 99", () -> {
      for (int v : new int[] {0, 99}) Sentences.changesNothing(Recipes.BUSY, x -> ask.of(x, v, 5, 99, 6));
      for (int v : new int[] {-1, 100, LEAST, MOST}) refused(ARGUMENT, Recipes.BUSY, x -> ask.of(x, v, 5, Math.max(v, 99), 6));
    });
    Sentences.sentence("- `y1`: 0 to 99", () -> {
      for (int v : new int[] {0, 99}) Sentences.changesNothing(Recipes.BUSY, x -> ask.of(x, 5, v, 6, 99));
      for (int v : new int[] {-1, 100, LEAST, MOST}) refused(ARGUMENT, Recipes.BUSY, x -> ask.of(x, 5, v, 6, Math.max(v, 99)));
    });
    Sentences.sentence("- `x2`: x1 to 99", () -> {
      for (int v : new int[] {40, 99}) Sentences.changesNothing(Recipes.BUSY, x -> ask.of(x, 40, 5, v, 6));
      for (int v : new int[] {39, 100, -1, LEAST, MOST}) refused(ARGUMENT, Recipes.BUSY, x -> ask.of(x, 40, 5, v, 6));
    });
    Sentences.sentence("- `y2`: y1 to 99", () -> {
      for (int v : new int[] {40, 99}) Sentences.changesNothing(Recipes.BUSY, x -> ask.of(x, 5, 40, 6, v));
      for (int v : new int[] {39, 100, -1, LEAST, MOST}) refused(ARGUMENT, Recipes.BUSY, x -> ask.of(x, 5, 40, 6, v));
    });
    Sentences.sentence("Throws `IllegalArgumentException` if an argument is out of range", () -> {
      int[][] wrong = {{-1, 5, 9, 9}, {5, -1, 9, 9}, {100, 5, 100, 9}, {5, 100, 9, 100}, {5, 5, 100, 9}, {5, 5, 9, 100}, {5, 5, 4, 9}, {5, 5, 9, 4}};
      for (int[] b : wrong) {
        refused(ARGUMENT, Recipes.EMPTY, x -> ask.of(x, b[0], b[1], b[2], b[3]));
        refused(ARGUMENT, Recipes.BUSY_FULL, x -> ask.of(x, b[0], b[1], b[2], b[3]));
      }
    });
  }

  private static void window() {
    corners(ShallowBoxes::window);
    Sentences.sentence("Tells what a window meets.", () -> {
      ShallowBoxes x = Recipes.of(40, 50, 59, 69, 60, 50, 60, 69);
      due(1, () -> x.window(59, 69, 59, 69));
      due(3, () -> x.window(59, 69, 60, 69));
      due(2, () -> x.window(60, 69, 99, 99));
      due(0, () -> x.window(61, 0, 99, 99));
      due(0, () -> x.window(0, 70, 99, 99));
      due(0, () -> x.window(0, 0, 99, 49));
    });
    Sentences.sentence("Returns the rectangles that it meets, bit i set for the number i.", () -> {
      due(0, () -> new ShallowBoxes().window(0, 0, 99, 99));
      due(1, () -> Recipes.row(5).window(0, 0, 99, 99));
      due((1 << 24) - 1, () -> Recipes.full().window(0, 0, 99, 99));
      ShallowBoxes x = Recipes.full();
      for (int i = 0; i < 24; i++) { int c = 4 * i, bit = 1 << i; due(bit, () -> x.window(c, c, c, c)); }
      due(1 << 23, () -> x.window(93, 93, 99, 99));
      due(1 + 2 + 4 + 16 + 64, () -> Recipes.five().window(0, 0, 99, 99));
      due(0, () -> Recipes.removed(Recipes.row(5), 0).window(0, 0, 99, 99));
    });
  }

  private static final int[] TWO_LEVELS = Recipes.corners(60, 70, 40, 30, 10, 50, 60, 80, 70, 60, 60);

  private static void looks() {
    corners(ShallowBoxes::looks);
    Sentences.sentence("Returns how many nodes are looked at: the root, and each node whose box the window meets, if the node whose entry it is is looked at.", () -> {
      // The root is looked at without entries, and if the window does not meet its box.
      due(1, () -> new ShallowBoxes().looks(0, 0, 99, 99));
      due(1, () -> Recipes.row(5).looks(50, 50, 50, 50));
      due(1, () -> Recipes.five().looks(0, 50, 99, 99));
      ShallowBoxes x = Recipes.twoLevels();
      int[][] columns = {{0, 9, 1}, {10, 10, 3}, {39, 39, 3}, {40, 40, 3}, {39, 40, 4}, {59, 59, 3}, {60, 60, 4}, {59, 60, 6}, {70, 79, 4}, {69, 70, 5}, {80, 89, 3}, {90, 99, 1}, {0, 99, 8}};
      for (int[] c : columns) due(c[2], () -> x.looks(c[0], 9, c[1], 99));
      for (int[] c : columns) due(1, () -> x.looks(c[0], 10, c[1], 99));
      // The same, turned and mirrored.
      for (int way = 0; way < 8; way++) {
        ShallowBoxes turned = Recipes.of(Recipes.turned(way, TWO_LEVELS));
        for (int[] c : columns) {
          int[] w = Recipes.turned(way, c[0], 9, c[1], 60), beside = Recipes.turned(way, c[0], 10, c[1], 60);
          due(c[2], () -> turned.looks(w[0], w[1], w[2], w[3]));
          due(1, () -> turned.looks(beside[0], beside[1], beside[2], beside[3]));
        }
      }
      // A box is met where no rectangle is.
      due(2, () -> Recipes.row(0, 20, 40, 60, 80).looks(10, 0, 19, 9));
      due(1, () -> Recipes.row(0, 20, 40, 60, 80).looks(50, 0, 59, 9));
      ShallowBoxes y = Recipes.full();
      due(y.about(1), () -> y.looks(0, 0, 99, 99));
    });
    Sentences.sentence("Tells what a window costs.", () -> due(3, () -> Recipes.row(0, 20, 40, 60, 80).looks(0, 0, 99, 99)));
  }

  private static void nearest() {
    Sentences.sentence("Finds the nearest rectangle.", () -> {
      due(0, () -> Recipes.row(5).nearest(99, 99, 0));
      due(0, () -> Recipes.row(5).nearest(5, 0, 0));
      ShallowBoxes x = Recipes.of(0, 0, 9, 9, 30, 0, 39, 9);
      // 19 is 10 from 9 and 11 from 30; 20 is 11 and 10.
      due(0, () -> x.nearest(19, 0, 0));
      due(1, () -> x.nearest(20, 0, 0));
    });
    Sentences.sentence("Returns the rectangle with the k-th least distance from the cell (x, y) to its nearest cell (the square root of the sum of the squares of the differences),", () -> {
      // From 0, 0: 50 and 64, where the sums of the differences are 10 and 8, the greater ones 5 and 8.
      ShallowBoxes x = Recipes.of(8, 0, 8, 0, 5, 5, 9, 9);
      due(1, () -> x.nearest(0, 0, 0));
      due(0, () -> x.nearest(0, 0, 1));
      // 25 = 9 + 16 is as far as 5, and 26 is farther.
      ShallowBoxes y = Recipes.of(13, 14, 20, 20, 10, 15, 10, 15);
      due(0, () -> y.nearest(10, 10, 0));
      ShallowBoxes z = Recipes.of(11, 15, 20, 20, 13, 14, 20, 20);
      due(1, () -> z.nearest(10, 10, 0));
      // On each side of the cell, and with the cell in it.
      ShallowBoxes all = Recipes.of(0, 50, 45, 50, 54, 50, 99, 50, 50, 0, 50, 47, 50, 52, 50, 99, 49, 50, 50, 51);
      int[] ranks = {4, 3, 2, 1, 0, NONE};
      for (int k = 0; k < ranks.length; k++) { int which = k; due(ranks[which], () -> all.nearest(50, 50, which)); }
    });
    Sentences.sentence("of several the lowest number first;", () -> {
      ShallowBoxes x = Recipes.of(0, 0, 9, 9, 30, 0, 38, 9, 50, 0, 59, 9, 0, 0, 9, 9);
      // From 19 the rectangles 0 and 3 are 10 off, 1 is 11 off; from 20 it is the other way round.
      int[] at = {0, 3, 1, 2}, farther = {1, 0, 3, 2};
      for (int k = 0; k < 4; k++) {
        int which = k;
        due(at[which], () -> x.nearest(19, 0, which));
        due(farther[which], () -> x.nearest(20, 0, which));
      }
      for (int k = 0; k < 24; k++) { int which = k; due(which, () -> many().nearest(99, 0, which)); }
      // A number that was free and is taken again counts as a number, not as the last one.
      ShallowBoxes y = Recipes.removed(Recipes.row(5, 5, 5), 0);
      y.add(5, 0, 14, 9);
      due(0, () -> y.nearest(0, 0, 0));
    });
    Sentences.sentence("NONE if there are not so many.", () -> {
      for (int k : new int[] {0, 1, MOST}) due(NONE, () -> new ShallowBoxes().nearest(0, 0, k));
      due(4, () -> Recipes.five().nearest(0, 0, 4));
      for (int k : new int[] {5, 6, 24, MOST}) due(NONE, () -> Recipes.five().nearest(0, 0, k));
      due(23, () -> Recipes.full().nearest(0, 0, 23));
      due(NONE, () -> Recipes.full().nearest(0, 0, 24));
    });
  }

  private static ShallowBoxes many() {
    ShallowBoxes x = new ShallowBoxes();
    for (int i = 0; i < 24; i++) x.add(3, 4, 5, 6);
    return x;
  }

  private static void nearestRefused() {
    Sentences.sentence("- `x`: 0 to 99", () -> {
      for (int v : new int[] {0, 99}) due(0, () -> Recipes.row(5).nearest(v, 5, 0));
      for (int v : new int[] {-1, 100, LEAST, MOST}) refused(ARGUMENT, Recipes.BUSY, x -> x.nearest(v, 5, 0));
    });
    Sentences.sentence("- `y`: 0 to 99", () -> {
      for (int v : new int[] {0, 99}) due(0, () -> Recipes.row(5).nearest(5, v, 0));
      for (int v : new int[] {-1, 100, LEAST, MOST}) refused(ARGUMENT, Recipes.BUSY, x -> x.nearest(5, v, 0));
    });
    Sentences.sentence("- `k`: which one, from 0", () -> {
      due(0, () -> Recipes.row(5, 50).nearest(0, 0, 0));
      due(1, () -> Recipes.row(5, 50).nearest(0, 0, 1));
      for (int v : new int[] {-1, LEAST}) refused(ARGUMENT, Recipes.BUSY, x -> x.nearest(5, 5, v));
    });
    Sentences.sentence("Throws `IllegalArgumentException` if x or y is out of range, or k is negative", () -> {
      int[][] wrong = {{-1, 0, 0}, {100, 0, 0}, {0, -1, 0}, {0, 100, 0}, {0, 0, -1}};
      for (int[] a : wrong) {
        refused(ARGUMENT, Recipes.EMPTY, x -> x.nearest(a[0], a[1], a[2]));
        refused(ARGUMENT, Recipes.BUSY_FULL, x -> x.nearest(a[0], a[1], a[2]));
      }
    });
  }

  // ---- what would be

  private static void chosen() {
    corners(ShallowBoxes::chosen);
    Sentences.sentence("Returns the node of the level 0 that would be reached first, if this rectangle was added.", () -> {
      due(0, () -> new ShallowBoxes().chosen(0, 0, 99, 99));
      for (int many = 1; many <= 4; many++) { int n = many; due(0, () -> Recipes.row(new int[n]).chosen(50, 50, 99, 99)); }
      // Reached first: 50 to 58 comes to the first node, is thrown out at once, and ends in the second one.
      ShallowBoxes x = Recipes.row(0, 20, 40, 60, 80, 10);
      due(1, () -> x.chosen(50, 0, 58, 9));
      x.add(50, 0, 58, 9);
      due(2, () -> x.rectangle(6, 4));
      due(1, () -> x.about(5));
      for (int way = 0; way < 8; way++) {
        ShallowBoxes turned = Recipes.of(Recipes.turned(way, TWO_LEVELS));
        for (int[] c : new int[][] {{75, 75, 2}, {65, 65, 3}, {85, 85, 4}, {0, 0, 6}, {59, 59, 7}, {33, 35, 6}, {76, 81, 4}}) {
          int[] w = Recipes.turned(way, c[0], 0, c[1], 3);
          due(c[2], () -> turned.chosen(w[0], w[1], w[2], w[3]));
        }
      }
      // Of the level 0, also below a root of the level 2; and with 24 rectangles.
      due(2, () -> Recipes.twoLevels().chosen(75, 0, 75, 0));
      due(3, () -> Recipes.twoLevels().chosen(65, 0, 65, 0));
      due(4, () -> Recipes.twoLevels().chosen(85, 0, 85, 0));
      due(6, () -> Recipes.twoLevels().chosen(0, 0, 0, 0));
      due(7, () -> Recipes.twoLevels().chosen(59, 0, 59, 0));
      ShallowBoxes y = Recipes.full();
      for (int i = 0; i < 24; i++) {
        int c = 4 * i, n = y.chosen(c, c, c, c);
        due(0, () -> y.node(n, 0));
      }
    });
    Sentences.sentence("Tells which node would be chosen.", () -> due(2, () -> Recipes.row(0, 20, 40, 60, 80).chosen(54, 0, 55, 9)));
  }

  private static void ifAdded() {
    corners(ShallowBoxes::ifAdded);
    Sentences.sentence("Tells how much more overlap there would be.", () -> {
      due(0, () -> new ShallowBoxes().ifAdded(0, 0, 99, 99));
      due(0, () -> Recipes.row(7, 7, 7).ifAdded(7, 0, 16, 9));
      due(100, () -> Recipes.row(7, 7, 7, 7).ifAdded(7, 0, 16, 9));
      due(10, () -> Recipes.five().ifAdded(50, 0, 50, 20));
    });
    Sentences.sentence("Returns about(3) behind add() of this rectangle, less about(3) now;", () -> {
      for (int a = 0; a <= 90; a += 6) {
        more(Recipes.FIVE, a, 0, a + 9, 40);
        more(Recipes.EMPTY, a, 0, a + 9, 40);
        more(() -> Recipes.removed(Recipes.full(), 6), a, 90 - a, 99, 99);
      }
      for (int way = 0; way < 8; way++) {
        int[] turned = Recipes.turned(way, TWO_LEVELS);
        for (int a = 0; a <= 90; a += 15) {
          int[] b = Recipes.turned(way, a, 1, a + 9, 30);
          more(() -> Recipes.of(turned), b[0], b[1], b[2], b[3]);
        }
      }
      // Less than now: 3 is thrown out of [1 0 3 5], so that 20 to 69 gets 0 to 59.
      ShallowBoxes x = sixOver();
      Sentences.due("[[1 0 3 5] [2 4]]", Looks.tree(x));
      due(400, () -> x.about(3));
      due(-100, () -> x.ifAdded(0, 0, 9, 9));
    });
    Sentences.sentence("NONE - 100000 if there are 24.", () -> {
      due(-100001, () -> Recipes.full().ifAdded(0, 0, 99, 99));
      due(-100001, () -> Recipes.busyFull().ifAdded(99, 99, 99, 99));
      due(0, () -> Recipes.removed(Recipes.full(), 0).ifAdded(0, 0, 0, 0) == -100001 ? 1 : 0);
      refused(ARGUMENT, Recipes.BUSY_FULL, x -> x.ifAdded(0, 0, 100, 0));
    });
  }

  /** The nodes 20 to 69 and 30 to 99. */
  private static ShallowBoxes sixOver() { return Recipes.row(50, 20, 90, 60, 30, 50); }

  /** What ifAdded answers must be what add then does. */
  private static void more(Supplier<ShallowBoxes> before, int x1, int y1, int x2, int y2) {
    ShallowBoxes x = before.get();
    int now = x.about(3);
    x.add(x1, y1, x2, y2);
    due(x.about(3) - now, () -> before.get().ifAdded(x1, y1, x2, y2));
  }

  private static void bestRemoval() {
    Sentences.sentence("Finds the rectangle without which there would be least overlap.", () -> {
      int[] left = {400, 200, 0, 300, 200, 400};
      for (int i = 0; i < 6; i++) { int n = i; due(left[n], () -> Recipes.removed(sixOver(), n).about(3)); }
      due(2, () -> sixOver().bestRemoval());
    });
    Sentences.sentence("Returns the rectangle behind whose removal about(3) is least, among several the lowest; NONE without rectangles.", () -> {
      due(NONE, () -> new ShallowBoxes().bestRemoval());
      due(NONE, () -> Recipes.removed(Recipes.row(5), 0).bestRemoval());
      due(0, () -> Recipes.row(5).bestRemoval());
      due(0, () -> Recipes.row(1, 2, 3, 4).bestRemoval());
      due(1, () -> Recipes.removed(Recipes.row(1, 2, 3, 4), 0).bestRemoval());
      // Without 2, 4 or 6 there is none; without 0 or 1 there are 200 cells.
      due(2, () -> Recipes.five().bestRemoval());
      due(23, () -> lastOf24().bestRemoval());
      best(Recipes.FIVE);
      best(Recipes::full);
      best(Recipes::seven);
      best(Recipes::twoLevels);
      best(QuestionEdges::crowded);
      best(() -> Recipes.removed(crowded(), 4, 9, 0));
      best(QuestionEdges::sixOver);
      best(() -> Recipes.row(70, 50, 90, 70, 50, 0, 30, 30));
      // Each removal is a call of its own, which may throw out.
      due(6, () -> Recipes.row(30, 80, 10, 50, 70, 30, 30, 30).bestRemoval());
      for (int way = 0; way < 4; way++) for (int many = 10; many <= 60; many += 5) { int w = way, n = many; best(() -> Recipes.acted(w, n)); }
    });
  }

  /** Only the number 23 is left of 24. */
  private static ShallowBoxes lastOf24() {
    ShallowBoxes x = Recipes.full();
    for (int i = 0; i < 23; i++) x.remove(i);
    return x;
  }

  /** 24 rectangles that lie over one another. */
  private static ShallowBoxes crowded() {
    ShallowBoxes x = new ShallowBoxes();
    for (int i = 0; i < 24; i++) { int a = 37 * i % 80, b = 53 * i % 70; x.add(a, b, a + 3 * i % 20, b + 7 * i % 30); }
    return x;
  }

  private static void best(Supplier<ShallowBoxes> before) {
    int found = NONE, least = 0, there = before.get().window(0, 0, 99, 99);
    for (int i = 0; i < 24; i++) {
      if ((there >> i & 1) == 0) continue;
      int left = Recipes.removed(before.get(), i).about(3);
      if (found == NONE || left < least) { found = i; least = left; }
    }
    due(found, () -> before.get().bestRemoval());
  }

  private static void anew() {
    Sentences.sentence("Tells how much overlap there would be in a new tree.", () -> {
      due(0, () -> new ShallowBoxes().anew());
      due(0, () -> Recipes.row(5, 5, 5, 5).anew());
      due(100, () -> Recipes.row(5, 5, 5, 5, 5).anew());
    });
    Sentences.sentence("Returns about(3) of a new tree to which all rectangles were added, one call for each, by their numbers.", () -> {
      // With one call for all the overlap would be 400.
      due(100, () -> Recipes.row(70, 50, 90, 70, 50, 0, 30, 30).anew());
      due(400, () -> { ShallowBoxes x = Recipes.typed("70,0:10x10;50,0:10x10;90,0:10x10;70,0:10x10;50,0:10x10;0,0:10x10;30,0:10x10;30,0:10x10"); x.addAll(); return x.about(3); });
      again(Recipes.FIVE);
      again(Recipes::full);
      again(Recipes::twoLevels);
      again(QuestionEdges::crowded);
      again(() -> Recipes.removed(crowded(), 3, 4, 5, 17));
      // By their numbers: the one that was added last has the number 0.
      Supplier<ShallowBoxes> last = () -> { ShallowBoxes x = Recipes.removed(crowded(), 0); x.add(60, 0, 99, 70); return x; };
      again(last);
    });
  }

  private static void again(Supplier<ShallowBoxes> before) {
    ShallowBoxes x = before.get(), y = new ShallowBoxes();
    int there = x.window(0, 0, 99, 99);
    for (int i = 0; i < 24; i++) if ((there >> i & 1) == 1) y.add(x.rectangle(i, 0), x.rectangle(i, 1), x.rectangle(i, 2), x.rectangle(i, 3));
    due(y.about(3), () -> before.get().anew());
  }

  // ---- simulations

  private static void simulate() {
    Sentences.sentence("- `m`: number of turns, 1 to 60", () -> {
      for (int m : new int[] {1, 2, 59, 60}) due(simulated(Recipes.EMPTY, 7, m), () -> new ShallowBoxes().simulate(7, m));
      for (int m : new int[] {0, 61, -1, LEAST, MOST}) refused(ARGUMENT, Recipes.BUSY, x -> x.simulate(7, m));
    });
    Sentences.sentence("Throws `IllegalArgumentException` if m is out of range", () -> {
      for (int m : new int[] {0, 61}) {
        refused(ARGUMENT, Recipes.EMPTY, x -> x.simulate(0, m));
        refused(ARGUMENT, Recipes.BUSY_FULL, x -> x.simulate(0, m));
      }
    });
    Sentences.sentence("- `seed`: any long", () -> {
      for (long seed : new long[] {0, 1, -1, Long.MIN_VALUE, Long.MAX_VALUE, Long.MIN_VALUE + 1, Long.MAX_VALUE - 1, 1L << 32, -1L << 33}) same(Recipes.EMPTY, seed, 60);
    });
    Sentences.sentence("Simulates m turns on a copy of the state.", () -> {
      for (long seed = 0; seed < 6; seed++) {
        long from = seed;
        Sentences.changesNothing(Recipes.BUSY, x -> x.simulate(from, 60));
        Sentences.changesNothing(Recipes.BUSY_FULL, x -> x.simulate(from, 60));
        due(simulated(Recipes.BUSY, from, 30), () -> { ShallowBoxes x = Recipes.busy(); x.simulate(9, 60); return x.simulate(from, 30); });
      }
    });
    Sentences.sentence("A long x starts as the seed. Each turn first replaces x by x * 6364136223846793005L + 1442695040888963407L (with long overflow), and r = (int) (x >>> 33) is computed.", () -> {
      // x is 1442695040888963407, r 167951807: the first turn uses what x was replaced by.
      due(1001, () -> new ShallowBoxes().simulate(0, 1));
      // Seeds whose first product runs over, upward and downward.
      for (long seed : new long[] {2, 3, -2, -3, 1L << 62, -1L << 62, Long.MAX_VALUE / 3, Long.MIN_VALUE / 3}) {
        same(Recipes.EMPTY, seed, 60);
        same(Recipes.FIVE, seed, 60);
        same(Recipes::full, seed, 60);
      }
    });
  }

  private static void simulateTurns() {
    Sentences.sentence("If there are 24 rectangles, or r % 4 is 0 and there is one,", () -> {
      // r is 1649717740, which is 4 * 412429435: without a rectangle one is added all the same.
      due(1001, () -> new ShallowBoxes().simulate(2, 1));
      due(1001, () -> Recipes.row(0).simulate(2, 1));
      // r is 167951807, which is odd: with 24 a rectangle is removed, with 23 one is added.
      due(23, () -> Recipes.full().simulate(0, 1) % 1000);
      due(24, () -> Recipes.removed(Recipes.full(), 5).simulate(0, 1) % 1000);
      for (long seed = 0; seed < 40; seed++) {
        same(Recipes::full, seed, 1);
        same(Recipes::full, seed, 2);
        same(() -> Recipes.removed(Recipes.full(), 11), seed, 1);
        same(() -> Recipes.row(40), seed, 1);
        same(Recipes.EMPTY, seed, 1);
      }
    });
    Sentences.sentence("the rectangle number r / 4 % 24 is removed, if there is one with this number.", () -> {
      // The number is 19: with 20 rectangles it is there, with 19 it is not, and nothing happens.
      ShallowBoxes x = new ShallowBoxes();
      for (int i = 0; i < 19; i++) x.add(i, i, i, i);
      int nodes = x.about(1);
      due(1000 * nodes + 19, () -> x.simulate(2, 1));
      x.add(50, 50, 50, 50);
      due(19, () -> x.simulate(2, 1) % 1000);
      int left = Recipes.full().remove(19);
      due(1000 * left + 23, () -> Recipes.full().simulate(2, 1));
    });
    Sentences.sentence("Otherwise one is added: x1 is r / 4 % 90, y1 is r / 512 % 90, x2 is x1 + r / 65536 % 10, y2 is y1 + r / 1048576 % 10.", () -> {
      for (long seed = 0; seed < 60; seed++) {
        same(Recipes.EMPTY, seed * 1000003 - 17, 60);
        same(Recipes.FIVE, seed * 1000003 - 17, 25);
      }
      // Seeds that tell 1048576 from 1048575 and 1048577.
      for (long seed : new long[] {360, 489, 552, 624, 858, 1380}) same(Recipes.EMPTY, seed, 60);
    });
    Sentences.sentence("Returns 1000 * (the nodes at the end) + (the rectangles at the end).", () -> {
      due(1001, () -> new ShallowBoxes().simulate(0, 1));
      due(3005, () -> Recipes.row(5, 5, 5, 5).simulate(0, 1));
    });
  }

  private static void same(Supplier<ShallowBoxes> before, long seed, int m) {
    due(simulated(before, seed, m), () -> before.get().simulate(seed, m));
  }

  /** The turns done by add and remove; the long overflow is worked out by numbers without bounds. */
  private static long simulated(Supplier<ShallowBoxes> before, long seed, int m) {
    BigInteger all = BigInteger.ONE.shiftLeft(64), x = BigInteger.valueOf(seed).mod(all);
    ShallowBoxes boxes = before.get();
    for (int turn = 0; turn < m; turn++) {
      x = x.multiply(new BigInteger("6364136223846793005")).add(new BigInteger("1442695040888963407")).mod(all);
      int r = x.shiftRight(33).intValueExact(), there = boxes.about(0);
      if (there == 24 || r % 4 == 0 && there > 0) {
        int i = r / 4 % 24;
        if ((boxes.window(0, 0, 99, 99) >> i & 1) == 1) boxes.remove(i);
      } else {
        int x1 = r / 4 % 90, y1 = r / 512 % 90;
        boxes.add(x1, y1, x1 + r / 65536 % 10, y1 + r / 1048576 % 10);
      }
    }
    return 1000 * boxes.about(1) + boxes.about(0);
  }
}
