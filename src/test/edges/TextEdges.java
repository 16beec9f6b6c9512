/** The text buffer, and the promises that are about it: append, clearText, errorPosition, addAll. */
final class TextEdges {
  private TextEdges() { }

  static void all() {
    Sentences.section("TEXT");
    buffer();
    shape();
    ranges();
    errors();
    Sentences.section("Promise 2: append");
    append();
    Sentences.section("Promise 3: clearText");
    clearText();
    Sentences.section("Promise 4: errorPosition");
    errorPosition();
    Sentences.section("Promise 10: addAll");
    addAll();
    addAllRefused();
    Sentences.end();
  }

  private static void error(long position, String text) { Sentences.due(position, () -> Recipes.typed(text).errorPosition()); }

  private static void rectangle(ShallowBoxes x, int i, int x1, int y1, int x2, int y2) {
    int[] corners = {x1, y1, x2, y2};
    for (int w = 0; w < 4; w++) { int what = w; Sentences.due(corners[what], () -> x.rectangle(i, what)); }
  }

  private static String times(int many, String text) { return text.repeat(many); }

  // ---- the terms

  private static void buffer() {
    Sentences.sentence("The object has a text buffer of at most 100 characters.", () -> {
      error(Sentences.NONE, Recipes.fullText());
      ShallowBoxes x = Recipes.typed(Recipes.fullText());
      Sentences.due(12, x::addAll);
      rectangle(x, 0, 0, 0, 0, 0);
      rectangle(x, 11, 90, 90, 98, 98);
      // A full text that ends too soon, and one whose last character is wrong.
      String most = Recipes.fullText().substring(0, 91);
      error(100, most + "90,90:10x");
      error(99, most + "90,90:9x0");
      Sentences.refused(Sentences.STATE, () -> Recipes.typed(times(100, "7")), y -> y.append('7'));
    });
  }

  private static void shape() {
    Sentences.sentence("Rectangles as a text are one or more with ; between them:", () -> {
      error(0, "");
      error(Sentences.NONE, "1,2:3x4");
      error(Sentences.NONE, "1,2:3x4;5,6:7x8");
      error(0, ";");
      error(0, ";1,2:3x4");
      error(8, "1,2:3x4;");
      error(8, "1,2:3x4;;5,6:7x8");
      error(16, "1,2:3x4;5,6:7x8;");
      error(7, "1,2:3x4,5,6:7x8");
    });
    Sentences.sentence("x1, a comma, y1, a colon, a width, the letter x, and a height;", () -> {
      String text = "12,34:56x7;8,9:10x11";
      for (int i = 0; i < text.length(); i++) error(i, text.substring(0, i) + ' ' + text.substring(i + 1));
      error(1, "1:2,3x4");
      error(3, "1,2,3:4");
      error(5, "1,2:3X4");
      error(5, "1,2:3:4");
      error(0, "x");
      error(0, "-1,2:3x4");
      error(2, "1,+2:3x4");
    });
    Sentences.sentence("numbers are without zeros ahead;", () -> {
      error(1, "00,0:1x1");
      error(1, "01,0:1x1");
      error(3, "0,00:1x1");
      error(3, "0,09:1x1");
      error(4, "0,0:01x1");
      error(6, "0,0:1x01");
      error(9, "0,0:1x1;00,0:1x1");
      // The number 0 itself, and zeros behind, are fine.
      error(Sentences.NONE, "0,0:10x100");
      error(Sentences.NONE, "10,20:30x40");
    });
  }

  private static void ranges() {
    Sentences.sentence("x1 and y1 are 0 to 99,", () -> {
      for (int v = 0; v <= 99; v++) {
        error(Sentences.NONE, v + ",0:1x1");
        error(Sentences.NONE, "0," + v + ":1x1");
      }
      error(2, "100,0:1x1");
      error(4, "0,100:1x1");
      error(2, "990,0:1x1");
      error(4, "0,999:1x1");
    });
    Sentences.sentence("the width 1 to 100 - x1,", () -> {
      error(4, "0,0:0x1");
      error(5, "99,0:0x1");
      for (int v = 0; v <= 99; v++) {
        error(Sentences.NONE, v + ",0:" + (100 - v) + "x1");
        error(firstWrong(v + ",0:", 100 - v), v + ",0:" + (101 - v) + "x1");
      }
      error(6, "0,0:101x1");
      error(6, "50,0:51x1");
      error(5, "98,0:3x1");
      error(6, "99,0:10x1");
    });
    Sentences.sentence("the height 1 to 100 - y1", () -> {
      error(6, "0,0:1x0");
      error(7, "0,99:1x0");
      for (int v = 0; v <= 99; v++) {
        error(Sentences.NONE, "0," + v + ":1x" + (100 - v));
        error(firstWrong("0," + v + ":1x", 100 - v), "0," + v + ":1x" + (101 - v));
      }
      // It is y1 that bounds the height, and x1 that bounds the width.
      error(Sentences.NONE, "99,0:1x100");
      error(Sentences.NONE, "0,99:100x1");
    });
    Sentences.sentence("(x2 is x1 + width - 1, and so on).", () -> {
      ShallowBoxes x = Recipes.typed("0,0:1x1;0,0:100x100;99,99:1x1;20,30:4x50");
      x.addAll();
      rectangle(x, 0, 0, 0, 0, 0);
      rectangle(x, 1, 0, 0, 99, 99);
      rectangle(x, 2, 99, 99, 99, 99);
      rectangle(x, 3, 20, 30, 23, 79);
    });
  }

  /** Where a number that is one more than most goes wrong: behind the longest beginning of a number of 1 to most. */
  private static int firstWrong(String before, int most) {
    String number = "" + (most + 1);
    int good = 0;
    for (int v = 1; v <= most; v++) {
      for (int many = good + 1; many <= number.length(); many++) if (("" + v).startsWith(number.substring(0, many))) good = many;
    }
    return before.length() + good;
  }

  private static void errors() {
    Sentences.sentence("The error position is the index of the first character that these rules do not allow at its place", () -> {
      String digits = "0123456789", some = "123456789";
      String[][] allowed = {{"", digits}, {"0", ","}, {"5", digits + ","}, {"9", digits + ","}, {"10", ","}, {"99", ","}, {"7,", digits}, {"7,0", ":"},
        {"7,9", digits + ":"}, {"7,99", ":"}, {"0,0:", some}, {"0,0:1", digits + "x"}, {"0,0:9", digits + "x"}, {"0,0:10", "0x"}, {"0,0:11", "x"},
        {"0,0:100", "x"}, {"95,0:", "12345"}, {"95,0:1", "x"}, {"90,0:1", "0x"}, {"40,0:6", "0x"}, {"40,0:7", "x"}, {"99,0:", "1"}, {"0,0:1x", some},
        {"0,0:1x1", digits + ";"}, {"0,0:1x10", "0;"}, {"0,0:1x11", ";"}, {"0,0:1x100", ";"}, {"0,95:1x", "12345"}, {"0,88:1x1", "012;"}, {"0,99:1x1", ";"},
        {"0,0:1x1;", digits}, {"0,0:1x1;9", digits + ","}};
      for (String[] one : allowed) {
        for (int c = 0; c <= 255; c++) {
          String text = one[0] + (char) c;
          boolean right = one[1].indexOf(c) >= 0, whole = text.matches(".*x[0-9]+");
          error(!right ? one[0].length() : whole ? Sentences.NONE : text.length(), text);
        }
      }
      // What stands behind the first wrong character is of no account.
      error(1, "0;0,0:1x1");
      error(3, "5,5;\u00ff;;;");
    });
    Sentences.sentence("(a digit is not allowed if no number that is allowed begins with it and those before it);", () -> {
      error(6, "0,0:110x1");
      error(7, "0,0:1000x1");
      error(6, "60,0:50x1");
      error(5, "95,0:6x1");
      error(6, "95,0:50x1");
      error(8, "0,60:1x41");
      error(8, "0,60:1x50");
    });
    Sentences.sentence("if the text ends too soon, it is the length of the text.", () -> {
      String text = "12,34:56x7;8,9:10x11";
      for (int many = 0; many <= text.length(); many++) error(many == 10 || many >= 19 ? Sentences.NONE : many, text.substring(0, many));
    });
  }

  // ---- the promises

  private static void append() {
    Sentences.sentence("Appends a character to the text buffer.", () -> {
      ShallowBoxes x = Recipes.typed("0,0:1x");
      Sentences.due(6, x::errorPosition);
      x.append('5');
      Sentences.due(Sentences.NONE, x::errorPosition);
      x.addAll();
      rectangle(x, 0, 0, 0, 0, 4);
    });
    Sentences.sentence("- `c`: character code, 0 to 255", () -> {
      for (int c = 0; c <= 255; c++) { int code = c; Sentences.due(1, () -> new ShallowBoxes().append(code)); }
      Sentences.due(0, () -> Recipes.typed("\u0000").errorPosition());
      Sentences.due(0, () -> Recipes.typed("\u00ff").errorPosition());
      // 304 is the digit 0 with a bit too many.
      Sentences.refused(Sentences.ARGUMENT, Recipes.BUSY, y -> y.append(256 + '0'));
    });
    Sentences.sentence("Returns the new length of the text.", () -> {
      ShallowBoxes x = new ShallowBoxes();
      for (int i = 1; i <= 100; i++) { int many = i; Sentences.due(many, () -> x.append(';')); }
    });
    Sentences.sentence("Throws `IllegalArgumentException` if c is out of range", () -> {
      for (int c : new int[] {-1, 256, Integer.MIN_VALUE, Integer.MAX_VALUE}) Sentences.refused(Sentences.ARGUMENT, Recipes.BUSY, y -> y.append(c));
      // It is named before the full text.
      for (int c : new int[] {-1, 256}) Sentences.refused(Sentences.ARGUMENT, Recipes.BUSY_FULL, y -> y.append(c));
    });
    Sentences.sentence("Throws `IllegalStateException` if the text already has 100 characters", () -> {
      for (int c : new int[] {0, '0', 255}) Sentences.refused(Sentences.STATE, Recipes.BUSY_FULL, y -> y.append(c));
      Sentences.due(100, () -> Recipes.typed(times(99, ",")).append(','));
    });
  }

  private static void clearText() {
    Sentences.sentence("Empties the text buffer.", () -> {
      ShallowBoxes x = Recipes.busyFull();
      x.clearText();
      Sentences.due(0, x::errorPosition);
      // There is room for 100 characters again, and nothing of the old ones is left.
      String text = "5,5:9x9";
      for (int i = 1; i <= text.length(); i++) {
        int many = i;
        Sentences.due(many, () -> x.append(text.charAt(many - 1)));
        Sentences.due(many < text.length() ? many : Sentences.NONE, x::errorPosition);
      }
      for (int i = 8; i <= 100; i++) { int many = i; Sentences.due(many, () -> x.append(' ')); }
      Sentences.due(7, x::errorPosition);
      // The state and the save slots are as they were.
      Sentences.due(24, () -> x.about(0));
      Sentences.due(24, () -> x.restore(1));
    });
    Sentences.sentence("Returns the previous length of the text.", () -> {
      Sentences.due(0, () -> new ShallowBoxes().clearText());
      Sentences.due(1, () -> Recipes.typed("5").clearText());
      ShallowBoxes x = Recipes.busyFull();
      Sentences.due(100, x::clearText);
      Sentences.due(0, x::clearText);
    });
  }

  private static void errorPosition() {
    Sentences.sentence("Checks the text.", () -> {
      Sentences.changesNothing(Recipes.BUSY, ShallowBoxes::errorPosition);
      Sentences.changesNothing(Recipes.BUSY_FULL, ShallowBoxes::errorPosition);
      Sentences.changesNothing(Recipes.EMPTY, ShallowBoxes::errorPosition);
    });
    Sentences.sentence("Returns the error position of the text; NONE if it is rectangles.", () -> {
      Sentences.due(0, () -> new ShallowBoxes().errorPosition());
      error(Sentences.NONE, "0,0:1x1");
      error(6, "0,0:1x");
      // More rectangles than there is room for are rectangles all the same.
      Sentences.due(Sentences.NONE, () -> Recipes.busyFull().errorPosition());
    });
  }

  private static void addAll() {
    Sentences.sentence("Adds all rectangles of the text, in their order, one after the other", () -> {
      ShallowBoxes x = Recipes.type(Recipes.removed(Recipes.row(0, 0, 0, 0), 0, 2), "10,0:10x10;20,0:10x10;30,0:10x10");
      x.addAll();
      // They get the lowest free numbers one after the other.
      rectangle(x, 0, 10, 0, 19, 9);
      rectangle(x, 2, 20, 0, 29, 9);
      rectangle(x, 4, 30, 0, 39, 9);
      Sentences.due(5, () -> x.about(0));
      Sentences.due(1, () -> Recipes.typed("5,5:1x1").addAll());
    });
    Sentences.sentence("(within one call, as for throwing out).", () -> {
      // Nine equal ones: 0 is thrown out of the first node, and no other one out of any node.
      ShallowBoxes x = Recipes.typed("0,0:9x9;0,0:9x9;0,0:9x9;0,0:9x9;0,0:9x9;0,0:9x9;0,0:9x9;0,0:9x9;0,0:9x9");
      x.addAll();
      Sentences.due(1, () -> x.about(5));
      Sentences.due(3, () -> x.about(6));
      // The next call may throw out again.
      ShallowBoxes y = Recipes.type(Recipes.row(7, 7, 7, 7, 7, 7, 7), "7,0:10x10;7,0:10x10");
      Sentences.due(1, () -> y.about(5));
      y.addAll();
      Sentences.due(2, () -> y.about(5));
    });
    Sentences.sentence("Keeps the text.", () -> {
      ShallowBoxes x = Recipes.typed("5,5:1x1;6,6:2x2");
      x.addAll();
      Sentences.due(Sentences.NONE, x::errorPosition);
      Sentences.due(4, x::addAll);
      rectangle(x, 3, 6, 6, 7, 7);
      Sentences.due(15, x::clearText);
    });
    Sentences.sentence("Returns the number of rectangles then.", () -> {
      ShallowBoxes x = Recipes.typed(Recipes.fullText());
      Sentences.due(12, x::addAll);
      Sentences.due(24, x::addAll);
      Sentences.due(24, () -> Recipes.type(Recipes.removed(Recipes.full(), 7), "5,5:1x1").addAll());
      Sentences.due(24, () -> Recipes.type(Recipes.removed(Recipes.full(), 7, 9), "5,5:1x1;5,5:1x1").addAll());
    });
  }

  private static void addAllRefused() {
    Sentences.sentence("Throws `IllegalStateException` if the text is not rectangles, or there would be more than 24", () -> {
      String[] wrong = {"", "5", "5,5:1x1;", ";", "5,5:1x1;5,5:0x1", "5,5:1x1 "};
      for (String text : wrong) {
        Sentences.refused(Sentences.STATE, () -> Recipes.type(Recipes.five(), text), ShallowBoxes::addAll);
        Sentences.refused(Sentences.STATE, () -> Recipes.typed(text), ShallowBoxes::addAll);
        Sentences.refused(Sentences.STATE, () -> Recipes.type(Recipes.full(), text), ShallowBoxes::addAll);
      }
      Sentences.refused(Sentences.STATE, () -> Recipes.type(Recipes.full(), "5,5:1x1"), ShallowBoxes::addAll);
      Sentences.refused(Sentences.STATE, () -> Recipes.type(Recipes.removed(Recipes.full(), 7), "5,5:1x1;5,5:1x1"), ShallowBoxes::addAll);
      Sentences.refused(Sentences.STATE, () -> Recipes.type(Recipes.removed(Recipes.full(), 7, 9), "5,5:1x1;5,5:1x1;5,5:1x1"), ShallowBoxes::addAll);
      Sentences.refused(Sentences.STATE, () -> thirteen(), ShallowBoxes::addAll);
    });
  }

  /** Thirteen rectangles, and twelve more in the text. */
  private static ShallowBoxes thirteen() {
    return Recipes.type(Recipes.row(0, 5, 10, 15, 20, 25, 30, 35, 40, 45, 50, 55, 60), Recipes.fullText());
  }
}
