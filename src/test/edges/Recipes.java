import java.util.function.Supplier;

/** Objects in states that the tests begin with. */
final class Recipes {
  private Recipes() { }

  /** Rectangles by four numbers each. */
  static ShallowBoxes of(int... corners) {
    ShallowBoxes x = new ShallowBoxes();
    for (int i = 0; i < corners.length; i += 4) x.add(corners[i], corners[i + 1], corners[i + 2], corners[i + 3]);
    return x;
  }

  /** Squares of 10 by 10 cells on the upper edge. */
  static ShallowBoxes row(int... x1) {
    ShallowBoxes x = new ShallowBoxes();
    for (int a : x1) x.add(a, 0, a + 9, 9);
    return x;
  }

  /** The same rectangles turned or mirrored, in one of eight ways: the tree must be the same. */
  static int[] turned(int way, int... corners) {
    int[] all = corners.clone();
    for (int i = 0; i < all.length; i += 4) {
      int x1 = all[i], y1 = all[i + 1], x2 = all[i + 2], y2 = all[i + 3], keep;
      if ((way & 1) != 0) { keep = 99 - x1; x1 = 99 - x2; x2 = keep; }
      if ((way & 2) != 0) { keep = 99 - y1; y1 = 99 - y2; y2 = keep; }
      if ((way & 4) != 0) { keep = x1; x1 = y1; y1 = keep; keep = x2; x2 = y2; y2 = keep; }
      all[i] = x1; all[i + 1] = y1; all[i + 2] = x2; all[i + 3] = y2;
    }
    return all;
  }

  static int[] corners(int... x1) {
    int[] all = new int[4 * x1.length];
    for (int i = 0; i < x1.length; i++) { all[4 * i] = x1[i]; all[4 * i + 2] = x1[i] + 9; all[4 * i + 3] = 9; }
    return all;
  }

  /** The first so many of a hundred actions, among them enough removals that nodes and roots go and come. */
  static ShallowBoxes acted(int way, int many) {
    ShallowBoxes x = new ShallowBoxes();
    int r = 12345 + way;
    for (int n = 0; n < many; n++) {
      r = (r * 1103 + 12347) & 0xffffff;
      int there = x.window(0, 0, 99, 99), i = r / 7 % 24, rise = n / 25 % 2;
      boolean has = (there >> i & 1) == 1;
      if (has && (r / 3 % 4 < 1 + 2 * rise || there == 0xffffff)) {
        x.remove(i);
      } else if (has && r % 5 == 0) {
        x.move(i, r / 11 % 60 - x.rectangle(i, 0), r / 13 % 60 - x.rectangle(i, 1));
      } else if (there != 0xffffff) {
        int x1 = r / 17 % 80, y1 = way % 2 == 0 ? 0 : r / 19 % 80;
        x.add(x1, y1, x1 + r / 23 % 20, y1 + r / 29 % 20);
      }
    }
    return x;
  }

  /** The root over [[1 8] [9 10 6] [7 0]], 60 to 89, and [[4 3] [2 5]], 10 to 59. */
  static ShallowBoxes twoLevels() { return row(60, 70, 40, 30, 10, 50, 60, 80, 70, 60, 60); }

  static ShallowBoxes type(ShallowBoxes x, String text) {
    for (char c : text.toCharArray()) x.append(c);
    return x;
  }

  static ShallowBoxes typed(String text) { return type(new ShallowBoxes(), text); }

  static ShallowBoxes removed(ShallowBoxes x, int... numbers) {
    for (int i : numbers) x.remove(i);
    return x;
  }

  /** As many rectangles as there may be, on the diagonal. */
  static ShallowBoxes full() {
    ShallowBoxes x = new ShallowBoxes();
    for (int i = 0; i < 24; i++) x.add(4 * i, 4 * i, 4 * i + 1, 4 * i + 1);
    return x;
  }

  /** The root over [2 1 6], 20 to 49, [0 5], 0 to 19, and [4 3], 60 to 89. */
  static ShallowBoxes seven() { return row(0, 20, 40, 60, 80, 10, 30); }

  /** The root over [0 2 1] with the box 0 to 49 and [4 6] with the box 30 to 89; 3 and 5 are free. */
  static ShallowBoxes five() { return removed(seven(), 5, 3); }

  /** Something of everything: a tree, nine remembered states, a text of rectangles, both slots. */
  static ShallowBoxes busy() {
    ShallowBoxes x = row(0, 20, 40, 60);
    x.save(0);
    for (int a : new int[] {80, 10, 30}) x.add(a, 0, a + 9, 9);
    x.save(1);
    return type(removed(x, 5, 3), "7,8:9x10;50,50:1x2");
  }

  /** The same with 24 rectangles and a full text, which is rectangles. */
  static ShallowBoxes busyFull() {
    ShallowBoxes x = full();
    x.save(1);
    return type(x, fullText());
  }

  /** Twelve rectangles in 100 characters; the last one is the cells 90 to 98. */
  static String fullText() { return "0,0:1x1;1,1:1x1;2,2:1x1;3,3:1x1;4,4:1x1;5,5:1x1;6,6:1x1;7,7:1x1;8,8:1x1;9,9:1x1;10,10:10x1;90,90:9x9"; }

  static final Supplier<ShallowBoxes> EMPTY = ShallowBoxes::new;
  static final Supplier<ShallowBoxes> FIVE = Recipes::five;
  static final Supplier<ShallowBoxes> BUSY = Recipes::busy;
  static final Supplier<ShallowBoxes> BUSY_FULL = Recipes::busyFull;
}
