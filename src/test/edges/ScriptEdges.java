import java.util.List;
import java.util.function.Supplier;

/** Scripts: each command by itself, at its edges, and two of them one after the other. */
final class ScriptEdges {
  private ScriptEdges() { }

  private static final Class<?> ARGUMENT = Sentences.ARGUMENT;
  private static final int NONE = Sentences.NONE;

  static void all() {
    Sentences.section("Promise 21: runScript");
    groups();
    adding();
    removing();
    moving();
    asking();
    meeting();
    leaving();
    failing();
    zeros();
    arguments();
    Sentences.end();
  }

  /** Each of these commands succeeds by itself. */
  private static void succeed(Supplier<ShallowBoxes> before, long... commands) {
    for (long c : commands) Sentences.due(NONE, () -> before.get().runScript(1, c));
  }

  /** Each of these commands fails, as the first one and as the second one. */
  private static void fail(Supplier<ShallowBoxes> before, long... commands) {
    for (long c : commands) {
      Sentences.due(0, () -> before.get().runScript(1, c));
      Sentences.due(0, () -> before.get().runScript(2, c * 1000000000L + 500000099L));
      Sentences.due(1, () -> before.get().runScript(2, 500000099000000000L + c));
    }
  }

  private static void two(long want, Supplier<ShallowBoxes> before, long first, long second) {
    Sentences.due(want, () -> before.get().runScript(2, first * 1000000000L + second));
  }

  private static ShallowBoxes all24() {
    ShallowBoxes x = new ShallowBoxes();
    for (int i = 0; i < 24; i++) x.add(0, 0, 99, 99);
    return x;
  }

  private static void groups() {
    Sentences.sentence("Runs a script on a copy of the state.", () -> {
      long[] scripts = {112340506200000000L, 200000000201000000L, 300010100401000000L, 204000000206000000L, 101010101199990000L};
      for (long script : scripts) {
        Sentences.changesNothing(Recipes.BUSY, x -> x.runScript(2, script));
        Sentences.changesNothing(Recipes.BUSY_FULL, x -> x.runScript(2, script));
        Sentences.changesNothing(Recipes.EMPTY, x -> x.runScript(2, script));
      }
      // Each script begins with the state as it is.
      ShallowBoxes x = Recipes.row(5);
      for (int i = 0; i < 3; i++) Sentences.due(NONE, () -> x.runScript(1, 200000000L));
    });
    Sentences.sentence("A script has 1 or 2 commands;", () -> {
      Sentences.due(NONE, () -> Recipes.row(5).runScript(1, 200000000L));
      two(NONE, () -> Recipes.row(5, 6), 200000000L, 201000000L);
      two(1, () -> Recipes.row(5, 6), 200000000L, 200000000L);
      two(0, () -> Recipes.row(5), 201000000L, 200000000L);
    });
    Sentences.sentence("each is a group of nine decimal digits d1 to d9, and the first command is the highest group of the number (with zeros before it, if it has fewer digits).", () -> {
      // The highest group is 000000000, which is no command.
      Sentences.due(0, () -> Recipes.row(5).runScript(2, 200000000L));
      Sentences.due(0, () -> Recipes.row(5).runScript(2, 0));
      Sentences.due(0, () -> Recipes.row(5).runScript(1, 0));
      Sentences.due(0, () -> Recipes.row(5).runScript(2, 1000000000L));
      // Fewer digits than nine: d1 is 0.
      for (long c : new long[] {1, 20000000, 50000009, 99999999}) fail(() -> Recipes.row(5), c);
      // The lower group has zeros ahead as well.
      two(1, () -> Recipes.row(5), 200000000L, 20000000L);
      // What the first command has done is there for the second one.
      two(NONE, Recipes.EMPTY, 112340000L, 812340000L);
      two(1, Recipes.EMPTY, 112340000L, 812350000L);
      two(NONE, () -> Recipes.row(0, 20, 40, 60, 80), 203000000L, 500000001L);
      two(1, () -> Recipes.row(0, 20, 40, 60, 80), 200000000L, 500000002L);
    });
  }

  private static void adding() {
    Sentences.sentence("1 x x y y w w h h: add(xx, yy, xx + ww, yy + hh).", () -> {
      succeed(Recipes.EMPTY, 100000000L, 199990000L, 100009999L, 150004900L, 100500049L, 199000000L);
      // A column or a row too far.
      fail(Recipes.EMPTY, 199990100L, 199990001L, 150005000L, 100500050L, 101009900L, 100010099L);
      two(NONE, Recipes.EMPTY, 150600708L, 857680000L);
      two(1, Recipes.EMPTY, 150600708L, 858680000L);
      two(1, Recipes.EMPTY, 150600708L, 857690000L);
      two(NONE, Recipes.EMPTY, 150600708L, 850600000L);
      // With 24 rectangles it fails, with 23 it does not, and the next one does.
      fail(Recipes::full, 100000000L);
      succeed(() -> Recipes.removed(Recipes.full(), 8), 100000000L);
      two(1, () -> Recipes.removed(Recipes.full(), 8), 100000000L, 100000000L);
      two(NONE, Recipes::full, 208000000L, 199990000L);
      // It gets the lowest free number.
      two(NONE, Recipes.FIVE, 199990000L, 899990300L);
      two(1, Recipes.FIVE, 199990000L, 899990700L);
    });
  }

  private static void removing() {
    Sentences.sentence("2 i i 0 0 0 0 0 0: remove(ii).", () -> {
      succeed(Recipes::full, 200000000L, 223000000L, 210000000L);
      fail(Recipes::full, 224000000L, 299000000L);
      succeed(Recipes.FIVE, 200000000L, 206000000L);
      fail(Recipes.FIVE, 203000000L, 205000000L, 207000000L);
      fail(Recipes.EMPTY, 200000000L);
      two(NONE, () -> Recipes.row(5), 200000000L, 500000001L);
      two(1, () -> Recipes.row(0, 20, 40, 60, 80), 201000000L, 801200100L);
    });
  }

  private static void moving() {
    Sentences.sentence("3 i i x x y y 0 0: move(ii, xx, yy).", () -> {
      Supplier<ShallowBoxes> one = () -> Recipes.of(0, 0, 9, 9, 40, 50, 44, 52);
      succeed(one, 301000000L, 301550000L, 301004700L, 301554700L, 300909000L);
      fail(one, 301560000L, 301004800L, 301990000L, 301009900L, 300910000L, 300009100L);
      succeed(() -> Recipes.of(0, 0, 0, 0), 300999900L);
      fail(Recipes.FIVE, 303000000L, 307000000L, 324000000L, 399000000L);
      fail(Recipes.EMPTY, 300000000L);
      two(NONE, one, 301123400L, 852840100L);
      two(1, one, 301123400L, 851840100L);
      two(1, one, 301123400L, 852830100L);
      // The digits of the cell are x = 40 + 12 and y = 50 + 34.
      two(1, one, 301123400L, 840500100L);
    });
    Sentences.sentence("4 i i x x y y 0 0: move(ii, -xx, -yy).", () -> {
      Supplier<ShallowBoxes> one = () -> Recipes.of(0, 0, 9, 9, 40, 50, 44, 52);
      succeed(one, 401000000L, 401400000L, 401005000L, 401405000L, 400000000L);
      fail(one, 401410000L, 401005100L, 401990000L, 401009900L, 400010000L, 400000100L);
      succeed(() -> Recipes.of(99, 99, 99, 99), 400999900L);
      fail(Recipes.FIVE, 403000000L, 407000000L, 424000000L, 499000000L);
      fail(Recipes.EMPTY, 400000000L);
      two(NONE, one, 401123400L, 828160100L);
      two(1, one, 401123400L, 827160100L);
      two(1, one, 401123400L, 828150100L);
      two(1, one, 401123400L, 840500100L);
    });
  }

  private static void asking() {
    Sentences.sentence("5 0 0 0 0 0 0 n n: succeeds if there are at most nn nodes.", () -> {
      succeed(Recipes.EMPTY, 500000001L, 500000002L, 500000099L);
      fail(Recipes.EMPTY, 500000000L);
      succeed(Recipes.FIVE, 500000003L, 500000004L, 500000010L);
      fail(Recipes.FIVE, 500000002L, 500000001L, 500000000L);
      int nodes = Recipes.full().about(1);
      succeed(Recipes::full, 500000000L + nodes);
      fail(Recipes::full, 500000000L + nodes - 1);
    });
    Sentences.sentence("6 0 0 0 v v v v v: succeeds if the overlap is at most vvvvv.", () -> {
      succeed(Recipes.EMPTY, 600000000L, 600000001L, 600099999L);
      succeed(Recipes.FIVE, 600000200L, 600000201L, 600099999L);
      fail(Recipes.FIVE, 600000199L, 600000000L, 600000100L);
      Supplier<ShallowBoxes> wide = () -> Recipes.of(0, 0, 99, 99, 0, 0, 99, 99, 0, 0, 99, 99, 0, 0, 99, 99, 0, 0, 99, 99);
      succeed(wide, 600010000L, 600010001L, 600020000L);
      fail(wide, 600009999L, 600001000L);
      fail(wide, 600100000L, 610010000L, 601010000L);
      // Three nodes with all cells are 30000.
      Supplier<ShallowBoxes> three = () -> Recipes.of(0, 0, 99, 99, 0, 0, 99, 99, 0, 0, 99, 99, 0, 0, 99, 99, 0, 0, 99, 99, 0, 0, 99, 99, 0, 0, 99, 99);
      succeed(three, 600030000L, 600030001L);
      fail(three, 600029999L, 600020000L, 600003000L);
      // More overlap than five digits can say.
      Sentences.due(1, () -> all24().about(3) > 99999 ? 1 : 0);
      fail(ScriptEdges::all24, 600099999L);
    });
  }

  /** Behind a first command there are as many nodes, and as much overlap, as behind the call itself. */
  private static void leaves(Supplier<ShallowBoxes> before, long command, Sentences.Ask call) {
    ShallowBoxes x = before.get();
    call.of(x);
    long nodes = x.about(1), overlap = x.about(3);
    two(NONE, before, command, 500000000L + nodes);
    two(1, before, command, 500000000L + nodes - 1);
    two(NONE, before, command, 600000000L + overlap);
    if (overlap > 0) two(1, before, command, 600000000L + overlap - 1);
    // And so they are behind other questions, some of which throw out.
    Sentences.due(NONE, () -> { ShallowBoxes y = before.get(); y.bestRemoval(); y.ifAdded(30, 0, 39, 9); y.simulate(3, 5); return y.runScript(2, command * 1000000000L + 600000000L + overlap); });
    if (overlap > 0) Sentences.due(1, () -> { ShallowBoxes y = before.get(); y.anew(); y.ifAdded(10, 0, 19, 9); return y.runScript(2, command * 1000000000L + 599999999L + overlap); });
  }

  private static void leaving() {
    Sentences.sentence("The commands 1 to 4", () -> {
      List<Supplier<ShallowBoxes>> all = List.of(Recipes.FIVE, Recipes::seven, Recipes::twoLevels, () -> Recipes.row(50, 20, 90, 60, 30, 50), () -> Recipes.row(40, 20, 90, 0, 80, 30, 10, 40),
        () -> Recipes.row(60, 0, 10, 20, 80, 10, 10), () -> Recipes.row(30, 40, 30, 60, 40, 70, 0, 60, 30), () -> Recipes.row(30, 80, 10, 50, 70, 30, 30, 30), () -> Recipes.acted(1, 40));
      for (Supplier<ShallowBoxes> before : all) {
        int there = before.get().window(0, 0, 99, 99);
        for (int a = 0; a <= 90; a += 10) { int at = a; leaves(before, 100000909L + at * 1000000L, x -> x.add(at, 0, at + 9, 9)); }
        for (int n = 0; n < 24; n++) {
          if ((there >> n & 1) == 0) continue;
          int i = n, x1 = before.get().rectangle(i, 0), y2 = before.get().rectangle(i, 3);
          leaves(before, 200000000L + i * 1000000L, x -> x.remove(i));
          leaves(before, 400000000L + i * 1000000L + x1 / 2 * 10000L, x -> x.move(i, -(x1 / 2), 0));
          leaves(before, 300000000L + i * 1000000L + (99 - y2) * 100L, x -> x.move(i, 0, 99 - y2));
        }
      }
    });
  }

  private static void meeting() {
    Sentences.sentence("7 x x y y i i 0 0: succeeds if the rectangle ii is nearest to (xx, yy).", () -> {
      Supplier<ShallowBoxes> three = () -> Recipes.of(0, 0, 9, 9, 30, 0, 38, 9, 30, 0, 38, 9);
      succeed(three, 719000000L, 720000100L, 700000000L, 799990100L);
      fail(three, 719000100L, 720000000L, 799990000L);
      // Of two that are as near the nearest one is the lower number, as nearest() answers.
      fail(three, 720000200L, 799990200L);
      fail(three, 700000300L, 700009900L);
      succeed(Recipes::full, 799992300L, 700000000L);
      fail(Recipes::full, 799992400L);
      fail(Recipes.FIVE, 700000300L);
      fail(Recipes.EMPTY, 700000000L);
      // x stands before y.
      succeed(() -> Recipes.of(99, 0, 99, 0, 0, 99, 0, 99), 799000000L, 700990100L);
      fail(() -> Recipes.of(99, 0, 99, 0, 0, 99, 0, 99), 799000100L, 700990000L);
    });
    Sentences.sentence("8 x x y y i i 0 0: succeeds if the rectangle ii has the cell (xx, yy).", () -> {
      Supplier<ShallowBoxes> two = () -> Recipes.of(0, 0, 99, 99, 40, 50, 44, 52);
      succeed(two, 840500100L, 844500100L, 840520100L, 844520100L, 842510100L);
      fail(two, 839500100L, 845500100L, 840490100L, 844530100L, 850400100L);
      succeed(two, 800000000L, 899990000L, 899000000L, 800990000L);
      fail(two, 840500200L, 840509900L, 840502400L);
      fail(Recipes.FIVE, 860000300L);
      fail(Recipes.EMPTY, 800000000L);
    });
  }

  private static void failing() {
    Sentences.sentence("The commands 1 to 4 fail if the method would throw an exception;", () -> {
      fail(Recipes::full, 100000000L, 224000000L, 324000000L, 424000000L, 323080000L, 400010000L);
      fail(Recipes.EMPTY, 199990001L, 200000000L, 300000000L, 400000000L);
    });
    Sentences.sentence("so does any other group", () -> {
      fail(Recipes.FIVE, 0L, 900000000L, 999999999L, 900000099L, 99999L);
    });
    Sentences.sentence("or with a rectangle that there is not).", () -> {
      for (int i : new int[] {3, 5, 7, 23, 24, 48, 99}) {
        fail(Recipes.FIVE, 200000000L + i * 1000000L, 300000000L + i * 1000000L, 400000000L + i * 1000000L, 700000000L + i * 100L, 800000000L + i * 100L);
      }
    });
  }

  private static void zeros() {
    Sentences.sentence("(also one with another digit where a 0 is written,", () -> {
      // Digit by digit: the command, and which of d1 to d9 are written as 0.
      String[][] commands = {{"201000000", "456789"}, {"301010100", "89"}, {"401010000", "89"}, {"500000099", "234567"}, {"600099999", "234"}, {"700000000", "89"}, {"800000000", "89"}};
      for (String[] one : commands) {
        succeed(Recipes.FIVE, Long.parseLong(one[0]));
        for (char place : one[1].toCharArray()) {
          for (char digit = '1'; digit <= '9'; digit++) {
            StringBuilder other = new StringBuilder(one[0]);
            other.setCharAt(place - '1', digit);
            fail(Recipes.FIVE, Long.parseLong(other.toString()));
          }
        }
      }
    });
    Sentences.sentence("xx, yy, ww, hh, ii, nn and vvvvv are decimal numbers.", () -> {
      two(NONE, Recipes.EMPTY, 109080706L, 816140000L);
      two(NONE, Recipes::full, 210000000L, 500000099L);
      succeed(Recipes::full, 840401000L, 841411000L, 880802000L);
      fail(Recipes::full, 842421000L, 840400100L);
    });
  }

  private static void arguments() {
    Sentences.sentence("- `n`: number of commands, 1 or 2", () -> {
      succeed(Recipes.EMPTY, 500000001L);
      two(NONE, Recipes.EMPTY, 500000001L, 500000001L);
      for (int n : new int[] {0, 3, -1, Integer.MIN_VALUE, Integer.MAX_VALUE}) refused(x -> x.runScript(n, 500000001L));
    });
    Sentences.sentence("- `script`: the commands, a number of at most 9 * n digits (0 or more)", () -> {
      for (long script : new long[] {0, 1, 999999999L}) Sentences.due(0, () -> Recipes.busy().runScript(1, script));
      for (long script : new long[] {0, 1, 1000000000L, 999999999999999999L}) Sentences.due(0, () -> Recipes.busy().runScript(2, script));
      for (long script : new long[] {-1, 1000000000L, 500000001000000000L, Long.MIN_VALUE, Long.MAX_VALUE}) refused(x -> x.runScript(1, script));
      for (long script : new long[] {-1, 1000000000000000000L, Long.MIN_VALUE, Long.MAX_VALUE}) refused(x -> x.runScript(2, script));
    });
    Sentences.sentence("Returns the index, from 0, of the first command that fails; NONE if all succeed.", () -> {
      two(0, Recipes.EMPTY, 0, 0);
      two(0, Recipes.EMPTY, 0, 500000001L);
      two(1, Recipes.EMPTY, 500000001L, 0);
      two(NONE, Recipes.EMPTY, 500000001L, 500000001L);
      Sentences.due(0, () -> new ShallowBoxes().runScript(1, 500000000L));
      Sentences.due(NONE, () -> new ShallowBoxes().runScript(1, 500000001L));
    });
    Sentences.sentence("Throws `IllegalArgumentException` if n is out of range, or if script is negative or has more than 9 * n digits", () -> {
      refused(x -> x.runScript(0, 0));
      refused(x -> x.runScript(0, -1));
      refused(x -> x.runScript(3, 500000001L));
      refused(x -> x.runScript(1, -200000000L));
      refused(x -> x.runScript(1, 1000000000L));
      refused(x -> x.runScript(2, 1000000000000000000L));
    });
  }

  private static void refused(Sentences.Ask call) {
    Sentences.refused(ARGUMENT, Recipes.BUSY, call);
    Sentences.refused(ARGUMENT, Recipes.EMPTY, call);
  }
}
