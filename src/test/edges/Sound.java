import java.util.ArrayList;
import java.util.List;

/** What the terms say of every tree, whatever has been done to it. */
final class Sound {
  private final ShallowBoxes x;
  private final List<int[]> boxes = new ArrayList<>();
  private final StringBuilder faults = new StringBuilder();
  private int rectangles = 0, overlap = 0, areas = 0, next = 0;

  private Sound(ShallowBoxes x) { this.x = x; }

  /** What is wrong with the tree of an object; "" if nothing is. */
  static String faults(ShallowBoxes x) {
    Sound sound = new Sound(x);
    sound.walk(Sentences.NONE, x.about(2), 0);
    int all = x.window(0, 0, 99, 99);
    sound.check(sound.rectangles == all, "the rectangles in the tree are " + sound.rectangles + " of " + all);
    sound.check(Integer.bitCount(all) == x.about(0), "about(0)");
    sound.check(sound.next == x.about(1), "about(1)");
    sound.check(sound.overlap == x.about(3), "about(3)");
    sound.check(sound.areas == x.about(4), "about(4)");
    return sound.faults.toString();
  }

  private void check(boolean right, String what) { if (!right) faults.append(what).append("; "); }

  /** Goes through a node, which must have the next number, and answers its box, null without entries. */
  private int[] walk(int above, int level, int deep) {
    int n = next++, many = x.node(n, 1);
    check(x.node(n, 0) == level && level >= 0, "the level of node " + n);
    check(x.node(n, 6) == above, "the node above node " + n);
    check(many <= 4 && (many >= 2 || n == 0 && level == 0), "the entries of node " + n);
    int[] box = null;
    int first = boxes.size();
    for (int k = 0; k < many; k++) {
      int e = x.entry(n, k);
      if (level > 0) check(e == next, "entry " + k + " of node " + n);
      int[] one = level == 0 || deep > 9 ? rectangle(e, n) : walk(n, level - 1, deep + 1);
      if (level > 0) for (int j = first; j < boxes.size(); j++) overlap += common(boxes.get(j), one);
      if (level > 0) boxes.add(one);
      box = box == null ? one.clone() : join(box, one);
    }
    while (boxes.size() > first) boxes.remove(first);
    for (int c = 0; c < 4; c++) check(x.node(n, 2 + c) == (box == null ? Sentences.NONE : box[c]), "the box of node " + n);
    if (n > 0 && box != null) areas += (box[2] - box[0] + 1) * (box[3] - box[1] + 1);
    return box;
  }

  private int[] rectangle(int i, int node) {
    check((rectangles >> i & 1) == 0, "rectangle " + i + " is there twice");
    rectangles |= 1 << i;
    check(x.rectangle(i, 4) == node, "the node of rectangle " + i);
    return new int[] {x.rectangle(i, 0), x.rectangle(i, 1), x.rectangle(i, 2), x.rectangle(i, 3)};
  }

  private static int[] join(int[] a, int[] b) {
    return new int[] {Math.min(a[0], b[0]), Math.min(a[1], b[1]), Math.max(a[2], b[2]), Math.max(a[3], b[3])};
  }

  private static int common(int[] a, int[] b) {
    int cells = 0;
    for (int cx = Math.max(a[0], b[0]); cx <= a[2] && cx <= b[2]; cx++) for (int cy = Math.max(a[1], b[1]); cy <= a[3] && cy <= b[3]; cy++) cells++;
    return cells;
  }
}
