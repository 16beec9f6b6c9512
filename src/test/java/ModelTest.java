import java.util.ArrayList;
import java.util.List;
import java.util.Random;

/** Random runs of calls, answered by the class and by a plain model that follows the document word by word. */
public final class ModelTest {
  /** A rectangle (level -1) or a node; boxes are joined anew each time that they are asked for. */
  static final class Part {
    int number = -1, level = -1;
    int[] own;
    final List<Part> parts = new ArrayList<>();

    int[] box() {
      if (own != null) return own;
      int[] all = null;
      for (Part p : parts) all = all == null ? p.box().clone() : join(all, p.box());
      return all;
    }

    Part copy() {
      Part c = new Part();
      c.number = number; c.level = level; c.own = own;
      for (Part p : parts) c.parts.add(p.copy());
      return c;
    }

    void preorder(List<Part> to) {
      to.add(this);
      if (level > 0) for (Part p : parts) p.preorder(to);
    }

    Part parentOf(Part sought) {
      for (Part p : parts) {
        if (p == sought) return this;
        Part q = p.parentOf(sought);
        if (q != null) return q;
      }
      return null;
    }

    Part find(int rectangle) {
      if (own != null) return number == rectangle ? this : null;
      for (Part p : parts) {
        Part q = p.find(rectangle);
        if (q != null) return q;
      }
      return null;
    }
  }

  static int[] join(int[] a, int[] b) {
    return new int[] {Math.min(a[0], b[0]), Math.min(a[1], b[1]), Math.max(a[2], b[2]), Math.max(a[3], b[3])};
  }
  static int area(int[] a) { return (a[2] - a[0] + 1) * (a[3] - a[1] + 1); }
  static int common(int[] a, int[] b) {
    int n = 0;
    for (int x = a[0]; x <= a[2]; x++) if (x >= b[0] && x <= b[2])
      for (int y = a[1]; y <= a[3]; y++) if (y >= b[1] && y <= b[3]) n++;
    return n;
  }

  static final class State {
    Part root = new Part();
    int thrown, splits, dissolved;
    List<Integer> levelsThatThrew = new ArrayList<>();
    State() { root.level = 0; }

    State copy() {
      State s = new State();
      s.root = root.copy(); s.thrown = thrown; s.splits = splits; s.dissolved = dissolved;
      return s;
    }

    List<Part> nodes() { List<Part> l = new ArrayList<>(); root.preorder(l); return l; }
    int count() { int n = 0; for (int i = 0; i < 24; i++) if (root.find(i) != null) n++; return n; }
    int lowest() { for (int i = 0; ; i++) if (root.find(i) == null) return i; }

    int overlap() {
      int n = 0;
      for (Part p : nodes()) if (p.level > 0)
        for (int i = 0; i < p.parts.size(); i++) for (int j = 0; j < i; j++) n += common(p.parts.get(i).box(), p.parts.get(j).box());
      return n;
    }

    Part descend(int[] box, int level) {
      Part at = root;
      while (at.level > level) {
        Part best = null;
        for (Part p : at.parts) {
          if (best == null) { best = p; continue; }
          int e = area(join(p.box(), box)) - area(p.box()), f = area(join(best.box(), box)) - area(best.box());
          if (e < f || (e == f && area(p.box()) < area(best.box()))) best = p;
        }
        at = best;
      }
      return at;
    }

    void putIn(Part item) {
      Part node = descend(item.box(), item.level + 1);
      node.parts.add(item);
      overflow(node);
    }

    void overflow(Part node) {
      if (node.parts.size() < 5) return;
      if (node != root && !levelsThatThrew.contains(node.level)) {
        levelsThatThrew.add(node.level);
        int[] b = node.box();
        Part far = null;
        double most = -1;
        for (Part p : node.parts) {
          int[] q = p.box();
          double dx = (q[0] + q[2]) / 2.0 - (b[0] + b[2]) / 2.0, dy = (q[1] + q[3]) / 2.0 - (b[1] + b[3]) / 2.0;
          if (dx * dx + dy * dy > most) { most = dx * dx + dy * dy; far = p; }
        }
        node.parts.remove(far);
        thrown++;
        putIn(far);
        return;
      }
      splits++;
      Part one = null, two = null;
      int worst = Integer.MIN_VALUE;
      for (int i = 0; i < 5; i++) for (int j = i + 1; j < 5; j++) {
        int[] a = node.parts.get(i).box(), b = node.parts.get(j).box();
        int w = area(join(a, b)) - area(a) - area(b);
        if (w > worst) { worst = w; one = node.parts.get(i); two = node.parts.get(j); }
      }
      List<Part> rest = new ArrayList<>(node.parts);
      rest.remove(one);
      rest.remove(two);
      Part fresh = new Part();
      fresh.level = node.level;
      node.parts.clear();
      node.parts.add(one);
      fresh.parts.add(two);
      while (!rest.isEmpty()) {
        Part p = rest.get(0), to;
        if (node.parts.size() == 1 && rest.size() == 1) to = node;
        else if (fresh.parts.size() == 1 && rest.size() == 1) to = fresh;
        else {
          int[] a = node.box(), b = fresh.box();
          int[] keyA = {area(join(a, p.box())) - area(a), area(a), node.parts.size()};
          int[] keyB = {area(join(b, p.box())) - area(b), area(b), fresh.parts.size()};
          to = java.util.Arrays.compare(keyA, keyB) <= 0 ? node : fresh;
        }
        to.parts.add(p);
        rest.remove(0);
      }
      if (node == root) {
        root = new Part();
        root.level = node.level + 1;
        root.parts.add(node);
        root.parts.add(fresh);
      } else {
        Part up = root.parentOf(node);
        up.parts.add(up.parts.indexOf(node) + 1, fresh);
        overflow(up);
      }
    }

    void takeOut(int i) {
      Part r = root.find(i), node = root.parentOf(r);
      node.parts.remove(r);
      List<Part> apart = new ArrayList<>();
      while (node != root) {
        Part up = root.parentOf(node);
        if (node.parts.size() < 2) {
          up.parts.remove(node);
          apart.addAll(node.parts);
          dissolved++;
        }
        node = up;
      }
      while (root.level > 0 && root.parts.size() == 1) root = root.parts.get(0);
      for (Part p : apart) putIn(p);
    }

    static Part rectangle(int i, int... b) { Part p = new Part(); p.number = i; p.own = b; return p; }
    int add(int... b) { levelsThatThrew.clear(); int i = lowest(); putIn(rectangle(i, b)); return i; }
    void remove(int i) { levelsThatThrew.clear(); takeOut(i); }
    void move(int i, int dx, int dy) {
      levelsThatThrew.clear();
      int[] b = root.find(i).own;
      takeOut(i);
      putIn(rectangle(i, b[0] + dx, b[1] + dy, b[2] + dx, b[3] + dy));
    }
    int nodeOf(int i) { return nodes().indexOf(root.parentOf(root.find(i))); }

    int nearest(int x, int y, int k) {
      List<long[]> all = new ArrayList<>();
      for (int i = 0; i < 24; i++) {
        Part p = root.find(i);
        if (p == null) continue;
        long least = Long.MAX_VALUE;
        for (int cx = p.own[0]; cx <= p.own[2]; cx++) for (int cy = p.own[1]; cy <= p.own[3]; cy++)
          least = Math.min(least, (long) (cx - x) * (cx - x) + (cy - y) * (cy - y));
        all.add(new long[] {least, i});
      }
      all.sort((p, q) -> java.util.Arrays.compare(p, q));
      return k < all.size() ? (int) all.get(k)[1] : -1;
    }

    int looks(Part at, int[] b) {
      int n = 1;
      if (at.level > 0) for (Part p : at.parts) if (common(p.box(), b) > 0) n += looks(p, b);
      return n;
    }
  }

  /** The face once more; a call answers a number, or the letter of the exception. */
  static final class Model {
    State now = new State();
    final List<State> before = new ArrayList<>();
    final State[] slots = new State[2];
    final StringBuilder text = new StringBuilder();
    static final long INDEX = 1L << 40, ARGUMENT = 2L << 40, STATE = 3L << 40;

    void remember() { before.add(now.copy()); if (before.size() > 14) before.remove(0); }
    static boolean box(int... b) { return b[0] >= 0 && b[1] >= 0 && b[2] >= b[0] && b[2] <= 99 && b[3] >= b[1] && b[3] <= 99; }

    /** The longest beginning that some text of rectangles begins with, found by trying all numbers. */
    int error() {
      int at = 0;
      while (true) {
        int[] n = new int[4];
        for (int part = 0; part < 4; part++) {
          int low = part < 2 ? 0 : 1, high = part == 0 || part == 1 ? 99 : 100 - n[part - 2], end = at;
          while (end < text.length() && begins(text.substring(at, end + 1), low, high)) end++;
          if (end == at) return at;
          n[part] = Integer.parseInt(text.substring(at, end));
          at = end;
          if (part < 3) {
            if (at == text.length() || text.charAt(at) != ",:x".charAt(part)) return at;
            at++;
          }
        }
        if (at == text.length()) return -1;
        if (text.charAt(at) != ';') return at;
        at++;
      }
    }
    static boolean begins(String s, int low, int high) {
      for (int v = low; v <= high; v++) if (Integer.toString(v).startsWith(s)) return true;
      return false;
    }

    long call(String name, long... a) {
      int p = a.length > 0 ? (int) a[0] : 0, q = a.length > 1 ? (int) a[1] : 0, r = a.length > 2 ? (int) a[2] : 0, s = a.length > 3 ? (int) a[3] : 0;
      List<Part> nodes = now.nodes();
      int count = now.count();
      switch (name) {
        case "append": if (p < 0 || p > 255) return ARGUMENT; if (text.length() == 100) return STATE; text.append((char) p); return text.length();
        case "clearText": { int n = text.length(); text.setLength(0); return n; }
        case "errorPosition": return error();
        case "about": switch (p) {
          case 0: return count;
          case 1: return nodes.size();
          case 2: return now.root.level;
          case 3: return now.overlap();
          case 4: { long n = 0; for (Part x : nodes) if (x != now.root) n += area(x.box()); return n; }
          case 5: return now.thrown;
          case 6: return now.splits;
          case 7: return now.dissolved;
          default: return ARGUMENT; }
        case "rectangle": { if (now.root.find(p) == null) return INDEX; if (q < 0 || q > 4) return ARGUMENT; return q < 4 ? now.root.find(p).own[q] : now.nodeOf(p); }
        case "node": { if (p < 0 || p >= nodes.size()) return INDEX; if (q < 0 || q > 6) return ARGUMENT;
          Part x = nodes.get(p);
          return q == 0 ? x.level : q == 1 ? x.parts.size() : q == 6 ? nodes.indexOf(now.root.parentOf(x)) : x.parts.isEmpty() ? -1 : x.box()[q - 2]; }
        case "entry": { if (p < 0 || p >= nodes.size()) return INDEX; if (q < 0) return ARGUMENT;
          Part x = nodes.get(p);
          return q >= x.parts.size() ? -1 : x.level == 0 ? x.parts.get(q).number : nodes.indexOf(x.parts.get(q)); }
        case "add": if (!box(p, q, r, s)) return ARGUMENT; if (count == 24) return STATE; remember(); return now.add(p, q, r, s);
        case "addAll": { if (error() != -1) return STATE; String[] all = text.toString().split(";"); if (all.length + count > 24) return STATE;
          remember(); now.levelsThatThrew.clear();
          for (String one : all) { String[] n = one.split("[,:x]"); int x = Integer.parseInt(n[0]), y = Integer.parseInt(n[1]);
            now.putIn(State.rectangle(now.lowest(), x, y, x + Integer.parseInt(n[2]) - 1, y + Integer.parseInt(n[3]) - 1)); }
          return now.count(); }
        case "remove": if (now.root.find(p) == null) return INDEX; remember(); now.remove(p); return now.nodes().size();
        case "move": { if (now.root.find(p) == null) return INDEX; if (Math.abs((long) q) > 99 || Math.abs((long) r) > 99) return ARGUMENT;
          int[] b = now.root.find(p).own; if (!box(b[0] + q, b[1] + r, b[2] + q, b[3] + r)) return STATE;
          remember(); now.move(p, q, r); return now.nodeOf(p); }
        case "undo": if (before.isEmpty()) return STATE; now = before.remove(before.size() - 1); return before.size();
        case "window": { if (!box(p, q, r, s)) return ARGUMENT; long n = 0;
          for (int i = 0; i < 24; i++) if (now.root.find(i) != null && common(now.root.find(i).own, new int[] {p, q, r, s}) > 0) n += 1L << i;
          return n; }
        case "looks": return !box(p, q, r, s) ? ARGUMENT : now.looks(now.root, new int[] {p, q, r, s});
        case "nearest": return p < 0 || p > 99 || q < 0 || q > 99 || r < 0 ? ARGUMENT : now.nearest(p, q, r);
        case "chosen": return !box(p, q, r, s) ? ARGUMENT : nodes.indexOf(now.descend(new int[] {p, q, r, s}, 0));
        case "ifAdded": { if (!box(p, q, r, s)) return ARGUMENT; if (count == 24) return -100001; State c = now.copy(); c.add(p, q, r, s); return c.overlap() - now.overlap(); }
        case "bestRemoval": { int best = -1, least = 0;
          for (int i = 0; i < 24; i++) if (now.root.find(i) != null) { State c = now.copy(); c.remove(i); if (best == -1 || c.overlap() < least) { best = i; least = c.overlap(); } }
          return best; }
        case "anew": { State c = new State(); for (int i = 0; i < 24; i++) if (now.root.find(i) != null) c.add(now.root.find(i).own); return c.overlap(); }
        case "runScript": return script(p, a[1]);
        case "simulate": { if (q < 1 || q > 60) return ARGUMENT; Model m = new Model(); m.now = now.copy(); long x = a[0];
          for (int t = 0; t < q; t++) { x = x * 6364136223846793005L + 1442695040888963407L; int n = (int) (x >>> 33), c = m.now.count();
            if (c == 24 || (n % 4 == 0 && c > 0)) m.call("remove", n / 4 % 24);
            else { int x1 = n / 4 % 90, y1 = n / 512 % 90; m.call("add", x1, y1, x1 + n / 65536 % 10, y1 + n / 1048576 % 10); } }
          return 1000L * m.now.nodes().size() + m.now.count(); }
        case "save": if (p < 0 || p > 1) return INDEX; slots[p] = now.copy(); return count;
        case "restore": if (p < 0 || p > 1) return INDEX; if (slots[p] == null) return STATE; now = slots[p].copy(); before.clear(); return now.count();
        default: throw new RuntimeException(name);
      }
    }

    long script(int n, long script) {
      if (n < 1 || n > 2 || script < 0 || Long.toString(script).length() > 9 * n) return ARGUMENT;
      String digits = String.format("%0" + 9 * n + "d", script);
      Model m = new Model();
      m.now = now.copy();
      for (int i = 0; i < n; i++) if (!m.obeys(digits.substring(9 * i, 9 * i + 9))) return i;
      return -1;
    }
    boolean obeys(String g) {
      int a = Integer.parseInt(g.substring(1, 3)), b = Integer.parseInt(g.substring(3, 5)), c = Integer.parseInt(g.substring(5, 7)), d = Integer.parseInt(g.substring(7));
      if (g.matches("1\\d{8}")) return call("add", a, b, a + c, b + d) < INDEX;
      if (g.matches("2\\d\\d000000")) return call("remove", a) < INDEX;
      if (g.matches("3\\d{6}00")) return call("move", a, b, c) < INDEX;
      if (g.matches("4\\d{6}00")) return call("move", a, -b, -c) < INDEX;
      if (g.matches("5000000\\d\\d")) return now.nodes().size() <= d;
      if (g.matches("6000\\d{5}")) return now.overlap() <= Integer.parseInt(g.substring(4));
      if (g.matches("7\\d{6}00")) return now.root.find(c) != null && now.nearest(a, b, 0) == c;
      if (g.matches("8\\d{6}00")) return now.root.find(c) != null && common(now.root.find(c).own, new int[] {a, b, a, b}) == 1;
      return false;
    }
  }

  static long real(ShallowBoxes x, String name, long... a) {
    int p = a.length > 0 ? (int) a[0] : 0, q = a.length > 1 ? (int) a[1] : 0, r = a.length > 2 ? (int) a[2] : 0, s = a.length > 3 ? (int) a[3] : 0;
    try {
      switch (name) {
        case "append": return x.append(p);
        case "clearText": return x.clearText();
        case "errorPosition": return x.errorPosition();
        case "about": return x.about(p);
        case "rectangle": return x.rectangle(p, q);
        case "node": return x.node(p, q);
        case "entry": return x.entry(p, q);
        case "add": return x.add(p, q, r, s);
        case "addAll": return x.addAll();
        case "remove": return x.remove(p);
        case "move": return x.move(p, q, r);
        case "undo": return x.undo();
        case "window": return x.window(p, q, r, s);
        case "looks": return x.looks(p, q, r, s);
        case "nearest": return x.nearest(p, q, r);
        case "chosen": return x.chosen(p, q, r, s);
        case "ifAdded": return x.ifAdded(p, q, r, s);
        case "bestRemoval": return x.bestRemoval();
        case "anew": return x.anew();
        case "runScript": return x.runScript(p, a[1]);
        case "simulate": return x.simulate(a[0], q);
        case "save": return x.save(p);
        case "restore": return x.restore(p);
        default: throw new RuntimeException(name);
      }
    } catch (RuntimeException e) {
      return e.getClass() == IndexOutOfBoundsException.class ? Model.INDEX : e.getClass() == IllegalArgumentException.class ? Model.ARGUMENT
          : e.getClass() == IllegalStateException.class ? Model.STATE : -(1L << 50);
    }
  }

  static int wrong = 0, calls = 0;
  static ShallowBoxes x;
  static Model m;
  static StringBuilder told;
  static int[] seen = new int[4];
  static java.util.TreeMap<String, int[]> kinds = new java.util.TreeMap<>();
  static int deepest = 0;

  static void both(String name, long... a) {
    calls++;
    long want = m.call(name, a), got = real(x, name, a);
    told.append(name).append(java.util.Arrays.toString(a)).append(" = ").append(want).append('\n');
    kinds.computeIfAbsent(name, k -> new int[4])[(int) (want >= Model.INDEX ? want >> 40 : 0)]++;
    if (got != want && wrong++ < 3) System.out.println(told + "answered " + got + ", due is " + want + "\n");
  }

  static void tellAll(Random random) {
    for (int w = -1; w <= 8; w++) both("about", w);
    for (int n = 0; n < m.now.nodes().size() && calls < 470; n++) {
      for (int w = 0; w <= 6; w++) both("node", n, w);
      for (int k = 0; k <= 4; k++) both("entry", n, k);
    }
    for (int i = 0; i < 24 && calls < 500; i++) both("rectangle", i, random.nextInt(5));
  }

  static int[] box(Random random, int style) {
    int wide = style == 0 ? 100 : style == 1 ? 12 : 3, step = style == 2 ? 5 : 1;
    int a = random.nextInt(100) / step * step, b = random.nextInt(100) / step * step;
    int c = style == 3 ? a : Math.min(99, a + random.nextInt(wide)), d = style == 3 ? b : Math.min(99, b + random.nextInt(wide));
    if (random.nextInt(40) == 0) { int[] z = {a, b, c, d}; z[random.nextInt(4)] += random.nextBoolean() ? 100 : -100; return z; }
    return new int[] {a, b, c, d};
  }

  static long[] wide(int[] b) { return new long[] {b[0], b[1], b[2], b[3]}; }

  static void type(Random random, int style) {
    if (random.nextInt(3) > 0) both("clearText");
    StringBuilder s = new StringBuilder();
    int many = 1 + random.nextInt(random.nextInt(4) == 0 ? 12 : 4);
    for (int i = 0; i < many; i++) {
      int[] b = box(random, style);
      s.append(i > 0 ? ";" : "").append(Math.abs(b[0])).append(',').append(Math.abs(b[1])).append(':').append(Math.abs(b[2] - b[0]) + 1).append('x').append(Math.abs(b[3] - b[1]) + 1);
    }
    if (random.nextInt(3) == 0) s.setCharAt(random.nextInt(s.length()), "0123456789,:x; -y".charAt(random.nextInt(17)));
    if (random.nextInt(6) == 0) s.setLength(random.nextInt(s.length()));
    for (int i = 0; i < s.length() && calls < 260; i++) {
      both("append", s.charAt(i));
      if (random.nextInt(12) == 0) both("errorPosition");
    }
    both("errorPosition");
    both("addAll");
  }

  static long command(Random random) {
    int i = random.nextInt(26), k = random.nextInt(12);
    int[] b = box(random, random.nextInt(4));
    long x = Math.floorMod(b[0], 100), y = Math.floorMod(b[1], 100), g;
    switch (k) {
      case 1: case 9: g = 100000000L + x * 1000000 + y * 10000 + random.nextInt(12) * 100 + random.nextInt(12); break;
      case 2: g = 200000000L + i * 1000000; break;
      case 3: case 4: g = k * 100000000L + i * 1000000 + random.nextInt(50) * 10000 + random.nextInt(50) * 100; break;
      case 5: g = 500000000L + random.nextInt(25); break;
      case 6: g = 600000000L + random.nextInt(random.nextBoolean() ? 3000 : 100000); break;
      case 7: g = 700000000L + x * 1000000 + y * 10000 + Math.max(0, m.now.nearest((int) x, (int) y, random.nextInt(2))) * 100; break;
      case 8: case 10: {
        Part p = m.now.root.find(i);
        if (p != null) { x = p.own[random.nextInt(2) * 2]; y = p.own[1 + random.nextInt(2) * 2]; }
        g = 800000000L + x * 1000000 + y * 10000 + i * 100; break; }
      default: g = random.nextInt(1000000000);
    }
    if (random.nextInt(10) == 0) { long p = 1; for (int j = random.nextInt(9); j > 0; j--) p *= 10; if (g + p < 1000000000) g += p; }
    return g;
  }

  static void step(Random random, int style, int fill) {
    int[] b = box(random, style);
    int i = random.nextInt(20) == 0 ? random.nextInt(60) - 20 : random.nextInt(24);
    int k = random.nextInt(40);
    if (k < fill) both("add", wide(b));
    else if (k < 20) both("remove", i);
    else switch (k) {
      case 20: case 21: case 22: case 23: both("move", i, random.nextInt(40) - 20, random.nextInt(40) - 20); break;
      case 24: both("move", i, random.nextInt(210) - 105, random.nextInt(210) - 105); break;
      case 25: both("undo"); break;
      case 26: for (int n = random.nextInt(18); n > 0; n--) both("undo"); break;
      case 27: both("window", wide(box(random, random.nextInt(3)))); break;
      case 28: both("looks", wide(box(random, random.nextInt(3)))); break;
      case 29: both("nearest", random.nextInt(104) - 2, random.nextInt(104) - 2, random.nextInt(27) - 1); break;
      case 30: both("chosen", wide(b)); break;
      case 31: both("ifAdded", wide(b)); break;
      case 32: both("bestRemoval"); break;
      case 33: both("anew"); break;
      case 34: both("runScript", 1, command(random)); break;
      case 35: both("runScript", random.nextInt(12) == 0 ? random.nextInt(5) - 1 : 2, random.nextInt(12) == 0 ? random.nextLong() : command(random) * 1000000000L + command(random)); break;
      case 36: both("simulate", random.nextLong(), random.nextInt(64) - 1); break;
      case 37: both("save", random.nextInt(10) == 0 ? random.nextInt(5) - 2 : random.nextInt(2)); break;
      case 38: if (random.nextInt(3) == 0) both("restore", random.nextInt(10) == 0 ? random.nextInt(5) - 2 : random.nextInt(2)); break;
      default: if (random.nextInt(3) == 0 && calls < 200) type(random, style); else both("node", random.nextInt(30) - 2, random.nextInt(10) - 1);
        both("rectangle", i, random.nextInt(8) - 1);
        both("entry", random.nextInt(30) - 2, random.nextInt(8) - 1);
        both("append", random.nextInt(300) - 20);
    }
  }

  /** A run that comes to a root of the level 3, which hardly any run does. */
  static void deepRun() {
    Random r = new Random(978);
    begin("deep run");
    int style = r.nextInt(4), low = 8 + r.nextInt(14);
    for (int c = 0; c <= 229; c++) {
      int n = m.now.count();
      if (n < 24 && (n < low || r.nextInt(2) == 0)) {
        int p = r.nextInt(90), q = r.nextInt(90), w = style == 0 ? 0 : r.nextInt(style == 1 ? 10 : style == 2 ? 3 : 90), h = style == 3 ? 0 : r.nextInt(10);
        both("add", p, q, Math.min(99, p + w), Math.min(99, q + h));
      } else {
        both("remove", r.nextInt(24));
      }
    }
    if (m.now.root.level != 3) throw new RuntimeException("the deep run is not deep");
    both("bestRemoval");
    both("looks", 0, 0, 99, 99);
    tellAll(r);
  }

  static void begin(String name) {
    x = new ShallowBoxes();
    m = new Model();
    told = new StringBuilder(name).append('\n');
    calls = 0;
  }

  public static void main(String[] args) {
    int runs = args.length > 0 ? Integer.parseInt(args[0]) : 4000;
    for (int run = 0; run < runs; run++) {
      Random random = new Random(run);
      begin("run " + run);
      int style = random.nextInt(4), fill = 8 + random.nextInt(11), steps = random.nextInt(180);
      for (int i = 0; i < steps && calls < 280; i++) {
        step(random, random.nextInt(5) == 0 ? random.nextInt(4) : style, random.nextInt(30) == 0 ? fill = 8 + random.nextInt(12) : fill);
        deepest = Math.max(deepest, m.now.root.level);
      }
      tellAll(random);
      if (calls > 512) throw new RuntimeException("a run of " + calls + " calls");
    }
    deepRun();
    if (args.length > 1) {
      kinds.forEach((k, v) -> System.out.println(k + " " + java.util.Arrays.toString(v)));
      System.out.println("deepest " + deepest);
    }
    System.out.println(wrong == 0 ? "model: all answers are as due" : wrong + " answers are not as due");
    if (wrong != 0) System.exit(1);
  }
}
