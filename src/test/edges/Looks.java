/** What can be seen of an object; each look uses up a fresh one, as some of the looks change it. */
final class Looks {
  static final int KINDS = 4;

  private Looks() { }

  static String at(ShallowBoxes x, int kind) {
    StringBuilder seen = new StringBuilder();
    switch (kind) {
      case 0: state(x, seen); break;
      case 1: remembered(x, seen); break;
      case 2: slots(x, seen); break;
      default: text(x, seen);
    }
    return seen.toString();
  }

  /** The tree as its entries: a node is [..], a rectangle its number. */
  static String tree(ShallowBoxes x) { return tree(x, 0); }

  private static String tree(ShallowBoxes x, int n) {
    StringBuilder seen = new StringBuilder("[");
    int level = x.node(n, 0);
    for (int k = 0; k <= 5 && x.entry(n, k) >= 0; k++) {
      if (k > 0) seen.append(' ');
      int e = x.entry(n, k);
      seen.append(level > 0 ? tree(x, e) : "" + e);
    }
    return seen.append(']').toString();
  }

  private static void state(ShallowBoxes x, StringBuilder seen) {
    numbers(x, seen);
    seen.append(" nodes");
    int nodes = x.about(1), there = x.window(0, 0, 99, 99);
    for (int n = 0; n < nodes; n++) for (int what = 0; what <= 6; what++) seen.append(' ').append(x.node(n, what));
    seen.append(" rectangles");
    for (int i = 0; i < 24; i++) {
      if ((there >> i & 1) == 0) continue;
      for (int what = 0; what <= 4; what++) seen.append(' ').append(x.rectangle(i, what));
    }
    seen.append(' ').append(tree(x));
  }

  private static void numbers(ShallowBoxes x, StringBuilder seen) {
    seen.append(" about");
    for (int what = 0; what <= 7; what++) seen.append(' ').append(x.about(what));
    seen.append(" window ").append(x.window(0, 0, 99, 99)).append(" box");
    for (int what = 2; what <= 5; what++) seen.append(' ').append(x.node(0, what));
  }

  private static void remembered(ShallowBoxes x, StringBuilder seen) {
    for (int n = 0; n < 16; n++) {
      try {
        seen.append(" undo ").append(x.undo());
      } catch (IllegalStateException e) {
        seen.append("none");
        return;
      }
      numbers(x, seen);
    }
  }

  private static void slots(ShallowBoxes x, StringBuilder seen) {
    for (int slot = 0; slot <= 1; slot++) {
      try {
        seen.append(" slot ").append(x.restore(slot));
        numbers(x, seen);
        seen.append(' ').append(tree(x));
      } catch (IllegalStateException e) {
        seen.append("none");
      }
    }
  }

  private static void text(ShallowBoxes x, StringBuilder seen) {
    seen.append(" error ").append(x.errorPosition());
    for (int n = 0; n < 14 && x.about(0) > 10; n++) x.remove(Integer.numberOfTrailingZeros(x.window(0, 0, 99, 99)));
    try {
      seen.append(" all ").append(x.addAll());
      numbers(x, seen);
    } catch (IllegalStateException e) {
      seen.append("none");
    }
    seen.append(" length ").append(x.clearText());
  }
}
