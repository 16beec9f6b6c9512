import java.util.List;
import java.util.function.Supplier;

/** Actions, undo, the save slots, and which exception a refused call throws. */
final class ActionEdges {
  private ActionEdges() { }

  private static final Class<?> INDEX = Sentences.INDEX, ARGUMENT = Sentences.ARGUMENT, STATE = Sentences.STATE;
  private static final int LEAST = Integer.MIN_VALUE, MOST = Integer.MAX_VALUE;

  static void all() {
    Sentences.section("What it is");
    calls();
    Sentences.section("ACTIONS AND UNDO");
    actions();
    remembering();
    Sentences.section("EXCEPTIONS");
    exceptions();
    order();
    refusals();
    Sentences.section("Promise 9: add");
    add();
    addRefused();
    Sentences.section("Promise 11: remove");
    remove();
    Sentences.section("Promise 12: move");
    move();
    moveRefused();
    Sentences.section("Promise 13: undo");
    undo();
    Sentences.section("Promise 23: save");
    save();
    Sentences.section("Promise 24: restore");
    restore();
    restoreRefused();
    Sentences.end();
  }

  private static void due(long want, Sentences.Call call) { Sentences.due(want, call); }

  private static void refused(Class<?> kind, Supplier<ShallowBoxes> before, Sentences.Ask call) { Sentences.refused(kind, before, call); }

  private static String told(ShallowBoxes x) { return Looks.at(x, 0); }

  private static void rectangle(ShallowBoxes x, int i, int x1, int y1, int x2, int y2) {
    int[] corners = {x1, y1, x2, y2};
    for (int w = 0; w < 4; w++) { int what = w; due(corners[what], () -> x.rectangle(i, what)); }
  }

  private static void about(ShallowBoxes x, int... all) {
    for (int w = 0; w <= 7; w++) { int what = w; due(all[what], () -> x.about(what)); }
  }

  /** This many actions; behind the n-th one there are n rectangles. */
  private static ShallowBoxes acted(int many) {
    ShallowBoxes x = new ShallowBoxes();
    for (int i = 0; i < many; i++) x.add(i, i, i + 3, i + 2);
    return x;
  }

  // ---- the 512 calls

  private static void calls() {
    Sentences.sentence("Rectangles in a shallow tree: nodes with few entries and the box around them,", () -> {
      Sentences.due("", Sound.faults(Recipes.full()));
    });
    Sentences.sentence("An object is used for at most 512 calls after it has been made;", () -> {
      // The 512th call answers as the first one would; nothing is used up by those before it.
      ShallowBoxes x = Recipes.row(0, 20, 40, 60);
      for (int i = 0; i < 252; i++) {
        due(4, () -> x.add(80, 0, 89, 9));
        due(1, () -> x.remove(4));
      }
      due(252, () -> x.about(7));
      due(1, () -> x.append('5'));
      due(1, () -> x.remove(3));
      due(3, () -> x.about(0));
      // Actions alone: each is remembered, and the last ones are taken back.
      ShallowBoxes y = Recipes.of(0, 0, 0, 0);
      for (int i = 0; i < 510; i++) { int to = i % 2 == 0 ? 99 : -99; due(0, () -> y.move(0, to, 0)); }
      due(13, y::undo);
      // Questions alone.
      ShallowBoxes z = new ShallowBoxes();
      for (int i = 0; i < 511; i++) due(Sentences.NONE, z::bestRemoval);
      due(0, z::anew);
    });
  }

  // ---- actions and undo

  private static void actions() {
    Sentences.sentence("The methods in the section \"actions\" change the state, which consists of everything but the text and the save slots.", () -> {
      ShallowBoxes x = Recipes.removed(Recipes.seven(), 5);
      about(x, 6, 3, 1, 0, 800, 1, 2, 1);
      x.save(1);
      Recipes.type(x, "5,5:");
      x.undo();
      x.undo();
      about(x, 6, 3, 1, 0, 800, 0, 1, 0);
      due(4, x::clearText);
      due(6, () -> x.restore(1));
      about(x, 6, 3, 1, 0, 800, 1, 2, 1);
    });
    Sentences.sentence("Each call of one of them that does not throw an exception is an action,", () -> {
      ShallowBoxes x = Recipes.typed("9,9:1x1");
      x.add(0, 0, 0, 0);
      x.addAll();
      x.move(1, 1, 1);
      x.remove(0);
      for (int left = 3; left >= 0; left--) { int many = left; due(many, x::undo); }
      // A refused call is none.
      ShallowBoxes y = Recipes.row(5);
      Sentences.thrown(ARGUMENT, () -> y.add(9, 9, 8, 9));
      Sentences.thrown(STATE, y::addAll);
      Sentences.thrown(INDEX, () -> y.remove(1));
      Sentences.thrown(STATE, () -> y.move(0, -6, 0));
      due(0, y::undo);
      // Nor is any other call.
      ShallowBoxes z = Recipes.row(5);
      z.append('5');
      z.errorPosition();
      z.clearText();
      z.save(0);
      z.window(0, 0, 9, 9);
      z.bestRemoval();
      z.simulate(1, 9);
      z.runScript(1, 200000000L);
      due(0, z::undo);
    });
    Sentences.sentence("also if nothing becomes different (undo is none).", () -> {
      ShallowBoxes x = Recipes.row(5);
      String before = told(x);
      due(0, () -> x.move(0, 0, 0));
      Sentences.due(before, told(x));
      due(1, x::undo);
      Sentences.due(before, told(x));
      due(0, x::undo);
      // What undo took back is not remembered: a second undo goes further back.
      ShallowBoxes y = acted(3);
      due(2, y::undo);
      due(2, () -> y.about(0));
      due(1, y::undo);
      due(1, () -> y.about(0));
    });
  }

  private static void remembering() {
    Sentences.sentence("Before each action, the state is remembered.", () -> {
      Sentences.Ask[] five = {x -> x.add(3, 4, 50, 60), ShallowBoxes::addAll, x -> x.remove(2), x -> x.move(4, -30, 20), x -> x.move(0, 0, 0)};
      for (Sentences.Ask action : five) Sentences.changesNothing(Recipes.BUSY, x -> { action.of(x); return x.undo(); });
      Sentences.changesNothing(Recipes.BUSY, x -> {
        for (Sentences.Ask action : five) action.of(x);
        for (int i = 0; i < five.length; i++) x.undo();
        return 0;
      });
    });
    Sentences.sentence("At most 14 states are remembered;", () -> {
      for (int many : new int[] {1, 13, 14}) {
        ShallowBoxes x = acted(many);
        for (int left = many - 1; left >= 0; left--) {
          int still = left;
          due(still, x::undo);
          due(still, () -> x.about(0));
        }
        Sentences.thrown(STATE, x::undo);
        Sentences.due(told(new ShallowBoxes()), told(x));
      }
    });
    Sentences.sentence("when one more is remembered, the oldest one is forgotten.", () -> {
      for (int many : new int[] {15, 16, 24}) {
        ShallowBoxes x = acted(many);
        for (int left = 13; left >= 0; left--) {
          int still = left;
          due(still, x::undo);
          due(many - 14 + still, () -> x.about(0));
        }
        Sentences.thrown(STATE, x::undo);
        Sentences.due(told(acted(many - 14)), told(x));
      }
      // Taking back makes room: behind 15 actions, 5 taken back and 5 more there are 14 again.
      ShallowBoxes y = acted(15);
      for (int i = 0; i < 5; i++) y.undo();
      for (int i = 10; i < 15; i++) y.add(i, i, i + 3, i + 2);
      for (int left = 13; left >= 0; left--) { int still = left; due(still, y::undo); due(still + 1, () -> y.about(0)); }
      Sentences.thrown(STATE, y::undo);
      // A hundred actions: 1 step a call to the right, then back.
      ShallowBoxes z = Recipes.row(0);
      for (int i = 0; i < 99; i++) z.move(0, i < 50 ? 1 : -1, 0);
      for (int left = 13; left >= 0; left--) { int still = left; due(still, z::undo); due(15 - still, () -> z.rectangle(0, 0)); }
      Sentences.thrown(STATE, z::undo);
    });
    Sentences.sentence("restore is not an action.", () -> {
      ShallowBoxes x = acted(3);
      x.save(0);
      x.restore(0);
      Sentences.thrown(STATE, x::undo);
      x.add(0, 0, 0, 0);
      x.restore(0);
      x.add(0, 0, 0, 0);
      due(0, x::undo);
      due(3, () -> x.about(0));
    });
  }

  // ---- exceptions

  private static void exceptions() {
    Sentences.sentence("IndexOutOfBoundsException means that a rectangle or a node does not exist, or that a save slot is not 0 or 1.", () -> {
      Sentences.Ask[] calls = {x -> x.rectangle(3, 0), x -> x.remove(3), x -> x.move(3, 0, 0), x -> x.node(3, 0), x -> x.entry(3, 0), x -> x.save(2), x -> x.restore(2)};
      for (Sentences.Ask call : calls) refused(INDEX, Recipes.BUSY, call);
      for (Sentences.Ask call : calls) refused(INDEX, Recipes.EMPTY, call);
    });
    Sentences.sentence("IllegalArgumentException means that another argument is out of its range.", () -> {
      Sentences.Ask[] calls = {x -> x.append(256), x -> x.about(8), x -> x.rectangle(0, 5), x -> x.node(0, 7), x -> x.entry(0, -1), x -> x.add(0, 0, 100, 0),
        x -> x.move(0, 100, 0), x -> x.window(0, 0, 100, 0), x -> x.looks(0, 0, 100, 0), x -> x.nearest(0, 0, -1), x -> x.chosen(0, 0, 100, 0),
        x -> x.ifAdded(0, 0, 100, 0), x -> x.runScript(3, 0), x -> x.simulate(0, 61)};
      for (Sentences.Ask call : calls) refused(ARGUMENT, Recipes.BUSY, call);
    });
    Sentences.sentence("IllegalStateException means what the method says.", () -> {
      refused(STATE, Recipes.BUSY_FULL, x -> x.append('5'));
      refused(STATE, Recipes.BUSY_FULL, x -> x.add(0, 0, 0, 0));
      refused(STATE, Recipes.BUSY_FULL, ShallowBoxes::addAll);
      refused(STATE, Recipes.BUSY_FULL, x -> x.move(0, -1, 0));
      refused(STATE, Recipes.EMPTY, ShallowBoxes::undo);
      refused(STATE, Recipes.BUSY_FULL, x -> x.restore(0));
    });
  }

  private static void order() {
    Sentences.sentence("If several exceptions apply to a call, the one that its description names first is thrown.", () -> {
      refused(ARGUMENT, Recipes.BUSY_FULL, x -> x.append(256));
      refused(INDEX, Recipes.BUSY, x -> x.rectangle(3, 5));
      refused(INDEX, Recipes.BUSY, x -> x.node(3, 7));
      refused(INDEX, Recipes.BUSY, x -> x.entry(3, -1));
      refused(ARGUMENT, Recipes.BUSY_FULL, x -> x.add(0, 0, 100, 0));
      refused(INDEX, Recipes.BUSY, x -> x.move(3, 100, 0));
      refused(INDEX, Recipes.BUSY, x -> x.move(3, -1, 0));
      refused(ARGUMENT, Recipes.BUSY, x -> x.move(0, 100, 0));
      refused(ARGUMENT, Recipes.BUSY, x -> x.move(0, -1, -100));
      refused(INDEX, Recipes.EMPTY, x -> x.restore(2));
      refused(INDEX, Recipes.EMPTY, x -> x.restore(-1));
    });
    Sentences.sentence("The constants: `NONE = -1`: There is no such result.", () -> due(-1, () -> ShallowBoxes.NONE));
  }

  private static void refusals() {
    Sentences.sentence("A call that throws an exception changes nothing.", () -> {
      Sentences.Ask[] index = {x -> x.rectangle(5, 0), x -> x.node(-1, 0), x -> x.entry(-1, 0), x -> x.remove(3), x -> x.move(5, 0, 0), x -> x.save(-1), x -> x.restore(-1)};
      for (Sentences.Ask call : index) refused(INDEX, Recipes.BUSY, call);
      Sentences.Ask[] argument = {x -> x.append(-1), x -> x.about(-1), x -> x.node(0, -1), x -> x.entry(0, -1), x -> x.add(5, 5, 4, 5),
        x -> x.window(5, 5, 4, 5), x -> x.looks(5, 5, 4, 5), x -> x.nearest(100, 0, 0), x -> x.chosen(5, 5, 4, 5),
        x -> x.ifAdded(5, 5, 4, 5), x -> x.runScript(0, 0), x -> x.runScript(1, -1), x -> x.simulate(0, 0)};
      for (Sentences.Ask call : argument) {
        refused(ARGUMENT, Recipes.BUSY, call);
        refused(ARGUMENT, Recipes.EMPTY, call);
      }
      refused(ARGUMENT, Recipes.BUSY, x -> x.rectangle(0, -1));
      refused(ARGUMENT, Recipes.BUSY, x -> x.move(6, 0, -100));
      Sentences.Ask[] state = {x -> x.append('0'), x -> x.add(0, 0, 0, 0), ShallowBoxes::addAll, x -> x.move(23, 99, 99), x -> x.restore(0)};
      for (Sentences.Ask call : state) refused(STATE, Recipes.BUSY_FULL, call);
    });
    Sentences.sentence("these and all following methods up to the save slots change nothing.", () -> {
      Sentences.Ask[] calls = {x -> x.window(0, 0, 99, 99), x -> x.looks(0, 0, 99, 99), x -> x.nearest(0, 0, 0), x -> x.chosen(99, 99, 99, 99),
        x -> x.ifAdded(30, 0, 30, 9), ShallowBoxes::bestRemoval, ShallowBoxes::anew, x -> x.runScript(2, 200000000100000000L),
        x -> x.runScript(2, 300101000402020200L), x -> x.simulate(5, 60), x -> x.simulate(2, 1)};
      for (Sentences.Ask call : calls) {
        Sentences.changesNothing(Recipes.BUSY, call);
        Sentences.changesNothing(Recipes.BUSY_FULL, call);
        Sentences.changesNothing(Recipes.EMPTY, call);
      }
    });
    Sentences.sentence("what would be; these and all following methods up to the save slots change nothing.", () -> {
      // What is asked before is of no account for what is asked later.
      Sentences.Ask[] calls = {x -> x.window(10, 0, 40, 9), x -> x.looks(10, 0, 40, 9), x -> x.nearest(30, 0, 1), x -> x.chosen(50, 0, 58, 9), x -> x.chosen(0, 0, 0, 99),
        x -> x.ifAdded(30, 0, 39, 9), x -> x.ifAdded(70, 0, 79, 50), ShallowBoxes::bestRemoval, ShallowBoxes::anew, x -> x.runScript(2, 200000000600000100L),
        x -> x.runScript(2, 110000909600000200L), x -> x.runScript(1, 500000003L), x -> x.runScript(2, 301100000500000003L), x -> x.simulate(5, 20), x -> x.simulate(-9, 60)};
      for (Supplier<ShallowBoxes> before : List.<Supplier<ShallowBoxes>>of(Recipes.FIVE, Recipes::seven, Recipes::full, Recipes.EMPTY, Recipes::twoLevels, () -> Recipes.acted(1, 40))) {
        for (Sentences.Ask first : calls) {
          for (Sentences.Ask second : calls) {
            long alone = second.of(before.get());
            due(alone, () -> { ShallowBoxes x = before.get(); first.of(x); return second.of(x); });
          }
        }
      }
    });
  }

  // ---- add

  private static void add() {
    Sentences.sentence("Adds a rectangle.", () -> {
      ShallowBoxes x = new ShallowBoxes();
      x.add(3, 5, 8, 13);
      due(1, () -> x.about(0));
      rectangle(x, 0, 3, 5, 8, 13);
      ShallowBoxes y = Recipes.removed(Recipes.full(), 9);
      y.add(1, 2, 3, 4);
      due(24, () -> y.about(0));
      rectangle(y, 9, 1, 2, 3, 4);
    });
    Sentences.sentence("- `x1`: 0 to 99", () -> {
      for (int v : new int[] {0, 99}) rectangle(Recipes.of(v, 5, 99, 6), 0, v, 5, 99, 6);
      for (int v : new int[] {-1, 100, LEAST, MOST}) refused(ARGUMENT, Recipes.BUSY, x -> x.add(v, 5, Math.max(v, 99), 6));
    });
    Sentences.sentence("- `y1`: 0 to 99", () -> {
      for (int v : new int[] {0, 99}) rectangle(Recipes.of(5, v, 6, 99), 0, 5, v, 6, 99);
      for (int v : new int[] {-1, 100, LEAST, MOST}) refused(ARGUMENT, Recipes.BUSY, x -> x.add(5, v, 6, Math.max(v, 99)));
    });
    Sentences.sentence("- `x2`: x1 to 99", () -> {
      for (int v : new int[] {40, 99}) rectangle(Recipes.of(40, 5, v, 6), 0, 40, 5, v, 6);
      for (int v : new int[] {39, 100, -1, LEAST, MOST}) refused(ARGUMENT, Recipes.BUSY, x -> x.add(40, 5, v, 6));
    });
    Sentences.sentence("- `y2`: y1 to 99", () -> {
      for (int v : new int[] {40, 99}) rectangle(Recipes.of(5, 40, 6, v), 0, 5, 40, 6, v);
      for (int v : new int[] {39, 100, -1, LEAST, MOST}) refused(ARGUMENT, Recipes.BUSY, x -> x.add(5, 40, 6, v));
    });
  }

  private static void addRefused() {
    Sentences.sentence("Returns its number.", () -> {
      due(0, () -> new ShallowBoxes().add(0, 0, 99, 99));
      due(23, () -> Recipes.removed(Recipes.full(), 23).add(0, 0, 99, 99));
      due(3, () -> Recipes.five().add(0, 0, 99, 99));
    });
    Sentences.sentence("Throws `IllegalArgumentException` if an argument is out of range", () -> {
      int[][] wrong = {{-1, 5, 9, 9}, {5, -1, 9, 9}, {100, 5, 100, 9}, {5, 100, 9, 100}, {5, 5, 100, 9}, {5, 5, 9, 100}, {5, 5, 4, 9}, {5, 5, 9, 4}};
      for (int[] b : wrong) {
        refused(ARGUMENT, Recipes.EMPTY, x -> x.add(b[0], b[1], b[2], b[3]));
        refused(ARGUMENT, Recipes.BUSY_FULL, x -> x.add(b[0], b[1], b[2], b[3]));
      }
    });
    Sentences.sentence("Throws `IllegalStateException` if there are 24", () -> {
      refused(STATE, Recipes.BUSY_FULL, x -> x.add(0, 0, 99, 99));
      refused(STATE, Recipes::full, x -> x.add(99, 99, 99, 99));
      due(5, () -> Recipes.removed(Recipes.full(), 5).add(0, 0, 99, 99));
    });
  }

  // ---- remove

  private static void remove() {
    Sentences.sentence("Removes a rectangle.", () -> {
      ShallowBoxes x = Recipes.five();
      x.remove(2);
      due(4, () -> x.about(0));
      Sentences.thrown(INDEX, () -> x.rectangle(2, 0));
      rectangle(x, 0, 0, 0, 9, 9);
      rectangle(x, 1, 20, 0, 29, 9);
      rectangle(x, 4, 80, 0, 89, 9);
      rectangle(x, 6, 30, 0, 39, 9);
    });
    Sentences.sentence("- `i`: its number", () -> {
      for (int i : new int[] {0, 23}) {
        ShallowBoxes x = Recipes.removed(Recipes.full(), i);
        due(0xffffff - (1 << i), () -> x.window(0, 0, 99, 99));
      }
      for (int i : new int[] {-1, 24, LEAST, MOST}) refused(INDEX, Recipes.BUSY_FULL, x -> x.remove(i));
    });
    Sentences.sentence("Returns the number of nodes then.", () -> {
      due(1, () -> Recipes.row(5).remove(0));
      due(3, () -> Recipes.row(0, 20, 40, 60, 80).remove(0));
      due(1, () -> Recipes.row(0, 20, 40, 60, 80).remove(3));
      due(3, () -> Recipes.seven().remove(5));
      // All of 24, until the root is all that is left.
      ShallowBoxes x = Recipes.full();
      for (int i = 0; i < 24; i++) { int got = x.remove(i); due(x.about(1), () -> got); }
      about(x, 0, 1, 0, 0, 0, x.about(5), x.about(6), x.about(7));
      Sentences.due("[]", Looks.tree(x));
    });
    Sentences.sentence("Throws `IndexOutOfBoundsException` if there is no such rectangle", () -> {
      for (int i : new int[] {-1, 3, 5, 7, 23, 24, 48, LEAST, MOST}) refused(INDEX, Recipes.BUSY, x -> x.remove(i));
      refused(INDEX, Recipes.EMPTY, x -> x.remove(0));
      refused(INDEX, () -> Recipes.removed(Recipes.full(), 11), x -> x.remove(11));
    });
  }

  // ---- move

  private static void move() {
    Sentences.sentence("it is taken out (and what was kept apart is put in again), and then put in with its number at its new place (within one call).", () -> {
      // The node of 3 goes, and 4 is put in again as the fourth of the only node, then 3 as the fifth.
      ShallowBoxes x = Recipes.row(0, 20, 40, 60, 80);
      due(2, () -> x.move(3, 30, 90));
      Sentences.due("[[0 1 2] [3 4]]", Looks.tree(x));
      rectangle(x, 3, 90, 90, 99, 99);
      about(x, 5, 3, 1, 0, 500 + 20 * 100, 0, 2, 1);
      // 4 is put in again and 1 is thrown out for it; then 2 finds a full node, which is split.
      ShallowBoxes y = Recipes.row(40, 20, 90, 0, 80, 30, 10, 40);
      Sentences.due("[[2 4] [0 1 5 7] [3 6]]", Looks.tree(y));
      int thrown = y.about(5), splits = y.about(6);
      due(2, () -> y.move(2, -60, 0));
      Sentences.due("[[5 0 7] [4 2] [3 6 1]]", Looks.tree(y));
      due(thrown + 1, () -> y.about(5));
      due(splits + 1, () -> y.about(6));
      // The lowest free number is not taken for it.
      ShallowBoxes z = Recipes.five();
      z.move(6, 1, 2);
      rectangle(z, 6, 31, 2, 40, 11);
      Sentences.thrown(INDEX, () -> z.rectangle(3, 0));
    });
    Sentences.sentence("- `i`: its number", () -> {
      for (int i : new int[] {0, 23}) {
        ShallowBoxes x = Recipes.full();
        x.move(i, 1, 2);
        rectangle(x, i, 4 * i + 1, 4 * i + 2, 4 * i + 2, 4 * i + 3);
        due(0xffffff, () -> x.window(0, 0, 99, 99));
      }
      for (int i : new int[] {-1, 24, LEAST, MOST}) refused(INDEX, Recipes.BUSY_FULL, x -> x.move(i, 0, 0));
    });
    Sentences.sentence("- `dx`: -99 to 99", () -> {
      ShallowBoxes x = Recipes.of(0, 5, 0, 5);
      due(0, () -> x.move(0, 99, 0));
      rectangle(x, 0, 99, 5, 99, 5);
      due(0, () -> x.move(0, -99, 0));
      rectangle(x, 0, 0, 5, 0, 5);
      for (int v : new int[] {-100, 100, LEAST, MOST}) refused(ARGUMENT, Recipes.BUSY, y -> y.move(0, v, 0));
    });
    Sentences.sentence("- `dy`: -99 to 99", () -> {
      ShallowBoxes x = Recipes.of(5, 0, 5, 0);
      due(0, () -> x.move(0, 0, 99));
      rectangle(x, 0, 5, 99, 5, 99);
      due(0, () -> x.move(0, 0, -99));
      rectangle(x, 0, 5, 0, 5, 0);
      for (int v : new int[] {-100, 100, LEAST, MOST}) refused(ARGUMENT, Recipes.BUSY, y -> y.move(0, 0, v));
    });
    Sentences.sentence("Returns its node then.", () -> {
      due(0, () -> Recipes.row(5).move(0, 1, 1));
      due(1, () -> Recipes.seven().move(2, -20, 0));
      due(2, () -> Recipes.seven().move(1, -20, 0));
      due(3, () -> Recipes.seven().move(1, 70, 0));
    });
  }

  private static void moveRefused() {
    Sentences.sentence("Throws `IndexOutOfBoundsException` if there is no such rectangle", () -> {
      for (int i : new int[] {-1, 3, 5, 7, 23, 24, LEAST, MOST}) {
        refused(INDEX, Recipes.BUSY, x -> x.move(i, 0, 0));
        refused(INDEX, Recipes.BUSY, x -> x.move(i, 100, 100));
      }
      refused(INDEX, Recipes.EMPTY, x -> x.move(0, 0, 0));
    });
    Sentences.sentence("Throws `IllegalArgumentException` if dx or dy is out of range", () -> {
      int[][] wrong = {{100, 0}, {-100, 0}, {0, 100}, {0, -100}, {LEAST, LEAST}, {MOST, MOST}, {100, 5}, {-99, 100}};
      for (int[] d : wrong) refused(ARGUMENT, Recipes.BUSY, x -> x.move(1, d[0], d[1]));
    });
    Sentences.sentence("Throws `IllegalStateException` if it would have cells that there are not", () -> {
      // 40 to 44 and 50 to 52: it may go as far as the edges, and not a cell farther.
      Supplier<ShallowBoxes> one = () -> Recipes.of(0, 0, 9, 9, 40, 50, 44, 52);
      int[][] fits = {{-40, 0}, {55, 0}, {0, -50}, {0, 47}, {-40, -50}, {55, 47}}, leaves = {{-41, 0}, {56, 0}, {0, -51}, {0, 48}, {-99, 0}, {99, 0}, {0, -99}, {0, 99}, {-41, -51}, {56, 48}};
      for (int[] d : fits) {
        ShallowBoxes x = one.get();
        x.move(1, d[0], d[1]);
        rectangle(x, 1, 40 + d[0], 50 + d[1], 44 + d[0], 52 + d[1]);
      }
      for (int[] d : leaves) refused(STATE, one, x -> x.move(1, d[0], d[1]));
    });
  }

  // ---- undo

  private static void undo() {
    Sentences.sentence("Takes back the last action that is remembered.", () -> {
      ShallowBoxes x = Recipes.five();
      String before = told(x);
      x.add(1, 1, 98, 98);
      String between = told(x);
      x.remove(0);
      x.undo();
      Sentences.due(between, told(x));
      x.undo();
      Sentences.due(before, told(x));
      // Behind it other actions may follow, and are taken back as well.
      x.move(4, 10, 90);
      x.undo();
      Sentences.due(before, told(x));
      ShallowBoxes full = Recipes.busyFull();
      full.undo();
      due(100, full::clearText);
      ShallowBoxes y = Recipes.removed(Recipes.full(), 17);
      y.undo();
      Sentences.due(told(Recipes.full()), told(y));
    });
    Sentences.sentence("Returns how many states are still remembered.", () -> {
      due(0, () -> acted(1).undo());
      due(1, () -> acted(2).undo());
      due(12, () -> acted(13).undo());
      due(13, () -> acted(14).undo());
      due(13, () -> acted(15).undo());
      due(13, () -> acted(24).undo());
    });
    Sentences.sentence("Throws `IllegalStateException` if none is remembered", () -> {
      refused(STATE, Recipes.EMPTY, ShallowBoxes::undo);
      refused(STATE, () -> taken(acted(1), 1), ShallowBoxes::undo);
      refused(STATE, () -> taken(acted(14), 14), ShallowBoxes::undo);
      refused(STATE, () -> taken(acted(20), 14), ShallowBoxes::undo);
      refused(STATE, () -> saved(), ShallowBoxes::undo);
    });
  }

  private static ShallowBoxes taken(ShallowBoxes x, int times) {
    for (int i = 0; i < times; i++) x.undo();
    return x;
  }

  private static ShallowBoxes saved() {
    ShallowBoxes x = Recipes.busy();
    x.restore(1);
    return x;
  }

  // ---- save and restore

  private static void save() {
    Sentences.sentence("Stores the present state in a save slot.", () -> {
      ShallowBoxes x = Recipes.five();
      String now = told(x);
      x.save(0);
      Recipes.removed(x, 0, 1, 2);
      x.add(0, 50, 99, 99);
      String then = told(x);
      // Each slot is by itself; what is stored later takes the place of what was there.
      x.save(1);
      x.restore(0);
      Sentences.due(now, told(x));
      x.restore(1);
      Sentences.due(then, told(x));
      x.save(0);
      x.add(7, 7, 7, 7);
      x.restore(0);
      Sentences.due(then, told(x));
      // Anew into the slot that has the same state: nothing is different.
      Sentences.changesNothing(Recipes.BUSY_FULL, full -> full.save(1));
      // It is no action, and forgets none.
      ShallowBoxes most = acted(14);
      most.save(0);
      due(13, most::undo);
      ShallowBoxes y = acted(3);
      y.save(0);
      due(2, y::undo);
      y.save(1);
      due(3, () -> y.restore(0));
      due(2, () -> y.restore(1));
    });
    Sentences.sentence("- `slot`: 0 or 1", () -> {
      for (int slot : new int[] {0, 1}) due(5, () -> Recipes.five().save(slot));
      for (int slot : new int[] {-1, 2, LEAST, MOST}) refused(INDEX, Recipes.BUSY, x -> x.save(slot));
    });
    Sentences.sentence("Returns the number of rectangles.", () -> {
      due(0, () -> new ShallowBoxes().save(0));
      due(0, () -> new ShallowBoxes().save(1));
      due(5, () -> Recipes.busy().save(0));
      due(24, () -> Recipes.busyFull().save(1));
    });
    Sentences.sentence("Throws `IndexOutOfBoundsException` if there is no such save slot", () -> {
      for (int slot : new int[] {-1, 2}) {
        refused(INDEX, Recipes.EMPTY, x -> x.save(slot));
        refused(INDEX, Recipes.BUSY_FULL, x -> x.save(slot));
      }
    });
  }

  private static void restore() {
    Sentences.sentence("Replaces the state by the one in a save slot, and forgets all remembered states.", () -> {
      ShallowBoxes x = Recipes.five();
      String now = told(x);
      x.save(1);
      Recipes.removed(x, 0, 1, 2, 4, 6);
      Recipes.type(x, "5,5:");
      due(5, () -> x.restore(1));
      Sentences.due(now, told(x));
      Sentences.thrown(STATE, x::undo);
      // The text is as it was.
      due(4, x::clearText);
      // 14 states may be remembered anew.
      for (int i = 0; i < 15; i++) x.move(0, 1, 1);
      for (int left = 13; left >= 0; left--) { int still = left; due(still, x::undo); }
      Sentences.thrown(STATE, x::undo);
      rectangle(x, 0, 1, 1, 10, 10);
    });
    Sentences.sentence("The save slot keeps it.", () -> {
      ShallowBoxes x = Recipes.five();
      String now = told(x);
      x.save(0);
      for (int i = 0; i < 3; i++) {
        x.restore(0);
        Sentences.due(now, told(x));
        x.remove(1);
        x.add(0, 0, 99, 99);
      }
      x.undo();
      x.undo();
      Sentences.due(now, told(x));
      due(5, () -> x.restore(0));
      Sentences.due(now, told(x));
    });
    Sentences.sentence("- `slot`: 0 or 1", () -> {
      due(4, () -> Recipes.busy().restore(0));
      due(7, () -> Recipes.busy().restore(1));
      for (int slot : new int[] {-1, 2, LEAST, MOST}) refused(INDEX, Recipes.BUSY, x -> x.restore(slot));
    });
  }

  private static void restoreRefused() {
    Sentences.sentence("Returns the number of rectangles then.", () -> {
      ShallowBoxes x = new ShallowBoxes();
      x.save(0);
      x.add(5, 5, 5, 5);
      // A tree without rectangles was saved, which is not nothing.
      due(0, () -> x.restore(0));
      due(1, () -> x.about(1));
      due(24, () -> Recipes.busyFull().restore(1));
    });
    Sentences.sentence("Throws `IndexOutOfBoundsException` if there is no such save slot", () -> {
      // Also with nothing saved at all.
      for (int slot : new int[] {-1, 2}) {
        refused(INDEX, Recipes.EMPTY, x -> x.restore(slot));
        refused(INDEX, Recipes.BUSY_FULL, x -> x.restore(slot));
      }
    });
    Sentences.sentence("Throws `IllegalStateException` if nothing has been saved in it", () -> {
      for (int slot : new int[] {0, 1}) refused(STATE, Recipes.EMPTY, x -> x.restore(slot));
      // The other slot is of no account.
      refused(STATE, Recipes.BUSY_FULL, x -> x.restore(0));
      refused(STATE, () -> { ShallowBoxes x = Recipes.five(); x.save(0); return x; }, x -> x.restore(1));
    });
  }
}
