/** The terms: rectangles, the tree, putting in, taking out. */
final class TreeEdges {
  private TreeEdges() { }

  /** The tree of these rectangles, however they are turned or mirrored. */
  private static void tree(String want, int... corners) {
    for (int way = 0; way < 8; way++) Sentences.due(want, Looks.tree(Recipes.of(Recipes.turned(way, corners))));
  }

  private static void about(ShallowBoxes x, int thrown, int splits, int dissolved) {
    Sentences.due(thrown, () -> x.about(5));
    Sentences.due(splits, () -> x.about(6));
    Sentences.due(dissolved, () -> x.about(7));
  }

  private static void box(ShallowBoxes x, int n, int x1, int y1, int x2, int y2) {
    Sentences.due(x1, () -> x.node(n, 2));
    Sentences.due(y1, () -> x.node(n, 3));
    Sentences.due(x2, () -> x.node(n, 4));
    Sentences.due(y2, () -> x.node(n, 5));
  }

  static void all() {
    Sentences.section("RECTANGLES");
    cells();
    numbers();
    areas();
    Sentences.section("THE TREE");
    entries();
    sizes();
    Sentences.section("PUTTING IN");
    choosing();
    throwing();
    throwingAgain();
    middles();
    seeds();
    groups();
    groupsAtATie();
    newNodes();
    Sentences.section("TAKING OUT");
    dissolving();
    newRoots();
    puttingBack();
    Sentences.end();
  }

  // ---- rectangles

  private static void cells() {
    Sentences.sentence("There are cells with x and y from 0 to 99.", () -> {
      ShallowBoxes x = Recipes.of(0, 0, 0, 0, 99, 99, 99, 99, 0, 99, 0, 99, 99, 0, 99, 0, 0, 0, 99, 99);
      Sentences.due(5, () -> x.about(0));
      int[][] outside = {{-1, 0, 0, 0}, {0, -1, 0, 0}, {99, 99, 100, 99}, {99, 99, 99, 100}, {-1, -1, -1, -1}, {100, 0, 100, 0}, {0, 100, 0, 100}};
      for (int[] b : outside) Sentences.refused(Sentences.ARGUMENT, Recipes.BUSY, y -> y.add(b[0], b[1], b[2], b[3]));
    });
    Sentences.sentence("A rectangle has the cells from x1 to x2 and from y1 to y2, with x1 not above x2, and y1 not above y2.", () -> {
      ShallowBoxes x = Recipes.of(5, 7, 5, 7, 20, 30, 22, 31);
      int[][] inside = {{20, 30}, {22, 30}, {20, 31}, {22, 31}}, beside = {{19, 30}, {23, 30}, {20, 29}, {22, 32}, {19, 29}, {23, 32}};
      Sentences.due(1, () -> x.window(5, 7, 5, 7));
      for (int[] c : inside) Sentences.due(2, () -> x.window(c[0], c[1], c[0], c[1]));
      for (int[] c : beside) Sentences.due(0, () -> x.window(c[0], c[1], c[0], c[1]));
      Sentences.refused(Sentences.ARGUMENT, Recipes.BUSY, y -> y.add(6, 7, 5, 7));
      Sentences.refused(Sentences.ARGUMENT, Recipes.BUSY, y -> y.add(5, 8, 5, 7));
      Sentences.refused(Sentences.ARGUMENT, Recipes.BUSY, y -> y.add(99, 99, 0, 0));
    });
  }

  private static void numbers() {
    Sentences.sentence("There are at most 24 rectangles, with numbers 0 to 23", () -> {
      ShallowBoxes x = new ShallowBoxes();
      for (int i = 0; i < 24; i++) { int n = i; Sentences.due(n, () -> x.add(n, n, 99, 99)); }
      Sentences.due(24, () -> x.about(0));
      for (int i = 0; i < 24; i++) { int n = i; Sentences.due(n, () -> x.rectangle(n, 0)); }
      Sentences.refused(Sentences.STATE, Recipes.BUSY_FULL, y -> y.add(0, 0, 0, 0));
    });
    Sentences.sentence("a new one gets the lowest number that none has", () -> {
      ShallowBoxes x = Recipes.removed(Recipes.full(), 23, 12, 0);
      for (int free : new int[] {0, 12, 23}) Sentences.due(free, () -> x.add(50, 60, 51, 62));
      Sentences.due(0, () -> Recipes.removed(Recipes.row(5), 0).add(1, 1, 1, 1));
      Sentences.due(2, () -> Recipes.removed(Recipes.row(5, 5, 5, 5), 3, 2).add(1, 1, 1, 1));
    });
  }

  private static void areas() {
    Sentences.sentence("The area of a rectangle is the number of its cells.", () -> {
      // Five equal rectangles stand in two nodes with the same box.
      int[][] boxes = {{5, 5, 5, 5, 1}, {0, 0, 99, 99, 10000}, {0, 7, 99, 7, 100}, {7, 0, 7, 99, 100}, {3, 4, 4, 6, 6}};
      for (int[] b : boxes) {
        ShallowBoxes x = new ShallowBoxes();
        for (int i = 0; i < 5; i++) x.add(b[0], b[1], b[2], b[3]);
        Sentences.due(2 * b[4], () -> x.about(4));
      }
    });
    Sentences.sentence("Two rectangles meet if they have a common cell.", () -> {
      ShallowBoxes x = Recipes.of(40, 50, 59, 69);
      int[][] meet = {{0, 0, 40, 50}, {59, 0, 99, 50}, {0, 69, 40, 99}, {59, 69, 99, 99}, {0, 60, 99, 60}, {50, 0, 50, 99}, {45, 55, 46, 56}, {0, 0, 99, 99}};
      int[][] apart = {{0, 0, 39, 99}, {60, 0, 99, 99}, {0, 0, 99, 49}, {0, 70, 99, 99}, {0, 0, 39, 49}, {60, 70, 60, 70}};
      for (int[] w : meet) Sentences.due(1, () -> x.window(w[0], w[1], w[2], w[3]));
      for (int[] w : apart) Sentences.due(0, () -> x.window(w[0], w[1], w[2], w[3]));
    });
    Sentences.sentence("The join of some rectangles is the smallest one that has all their cells.", () -> {
      box(Recipes.of(30, 2, 30, 2), 0, 30, 2, 30, 2);
      box(Recipes.of(30, 2, 30, 2, 4, 60, 5, 60), 0, 4, 2, 30, 60);
      box(Recipes.of(10, 10, 90, 90, 40, 40, 50, 50), 0, 10, 10, 90, 90);
      box(Recipes.of(0, 50, 0, 50, 99, 50, 99, 50, 50, 0, 50, 0, 50, 99, 50, 99), 0, 0, 0, 99, 99);
    });
  }

  // ---- the tree

  private static void entries() {
    Sentences.sentence("A node has a level. A node of the level 0 has rectangles as entries; a node of a greater level has nodes as entries, all of the level one lower.", () -> {
      ShallowBoxes x = Recipes.full();
      Sentences.due(2, () -> x.about(2));
      for (int n = 0; n < x.about(1); n++) {
        int node = n, level = x.node(n, 0);
        for (int k = 0; k < x.node(n, 1); k++) {
          int e = x.entry(n, k);
          Sentences.due(node, () -> level == 0 ? x.rectangle(e, 4) : x.node(e, 6));
          if (level > 0) Sentences.due(level - 1, () -> x.node(e, 0));
        }
      }
    });
    Sentences.sentence("Entries are in an order.", () -> {
      Sentences.due("[0 1 2]", Looks.tree(Recipes.row(90, 0, 40)));
      ShallowBoxes x = Recipes.row(90, 0, 40);
      x.move(0, 0, 0);
      Sentences.due("[1 2 0]", Looks.tree(x));
    });
    Sentences.sentence("The box of an entry is the rectangle, or the box of the node, which is the join of the boxes of its entries.", () -> {
      ShallowBoxes x = Recipes.five();
      box(x, 1, 0, 0, 49, 9);
      box(x, 2, 30, 0, 89, 9);
      box(x, 0, 0, 0, 89, 9);
      x.remove(4);
      // With 4 its node went, and 6 was put in again.
      box(x, 0, 0, 0, 49, 9);
      // A box that becomes larger or smaller changes all boxes above it.
      ShallowBoxes y = twoLevels();
      y.add(99, 99, 99, 99);
      box(y, 0, 10, 0, 99, 99);
      box(y, 1, 60, 0, 99, 99);
      y.remove(11);
      box(y, 0, 10, 0, 89, 9);
      box(y, 1, 60, 0, 89, 9);
    });
  }

  private static void sizes() {
    Sentences.sentence("There is one node that is no entry, the root; at first it is of the level 0, without entries.", () -> {
      ShallowBoxes x = new ShallowBoxes();
      Sentences.due(1, () -> x.about(1));
      Sentences.due(0, () -> x.node(0, 0));
      Sentences.due(0, () -> x.node(0, 1));
      Sentences.due(Sentences.NONE, () -> x.node(0, 6));
      Sentences.due(Sentences.NONE, () -> x.entry(0, 0));
      // Also behind roots that came and went, whose place another node has taken.
      ShallowBoxes z = Recipes.removed(Recipes.row(0, 30, 90, 80, 40, 40, 0, 90, 70, 50, 70, 30, 70, 50, 40), 6, 9, 8);
      Sentences.due(Sentences.NONE, () -> z.node(0, 6));
      ShallowBoxes y = Recipes.full();
      for (int n = 0; n < y.about(1); n++) { int node = n; Sentences.due(node == 0 ? 1 : 0, () -> y.node(node, 6) == Sentences.NONE ? 1 : 0); }
    });
    Sentences.sentence("It may have 0 to 4 entries,", () -> {
      ShallowBoxes x = new ShallowBoxes();
      for (int i = 0; i <= 4; i++) {
        int many = i;
        Sentences.due(many, () -> x.node(0, 1));
        Sentences.due(0, () -> x.about(2));
        x.add(20 * i, 0, 20 * i + 9, 9);
      }
      Sentences.due("[[0 1 2] [4 3]]", Looks.tree(x));
      // A root of a greater level has 4 entries at most as well.
      ShallowBoxes y = Recipes.row(60, 70, 40, 30, 10, 50, 60, 80, 70, 60);
      Sentences.due(4, () -> y.node(0, 1));
      Sentences.due(1, () -> y.about(2));
      y.add(60, 0, 69, 9);
      Sentences.due(2, () -> y.node(0, 1));
      Sentences.due(2, () -> y.about(2));
    });
    Sentences.sentence("but at least 2 if its level is not 0;", () -> {
      ShallowBoxes x = Recipes.row(0, 20, 40, 60, 80);
      Sentences.due(2, () -> x.node(0, 1));
      x.remove(3);
      Sentences.due("[0 1 2 4]", Looks.tree(x));
      Sentences.due(0, () -> x.about(2));
    });
    Sentences.sentence("It may have 0 to 4 entries, but at least 2 if its level is not 0; all other nodes have 2 to 4.", () -> {
      for (int way = 0; way < 12; way++) {
        for (int many = 0; many <= 100; many++) Sentences.due("", Sound.faults(Recipes.acted(way, many)));
      }
      Sentences.due("", Sound.faults(Recipes.full()));
      Sentences.due("", Sound.faults(new ShallowBoxes()));
    });
    Sentences.sentence("all other nodes have 2 to 4.", () -> {
      ShallowBoxes x = Recipes.row(0, 20, 40, 60, 80, 10);
      Sentences.due("[[0 1 2 5] [4 3]]", Looks.tree(x));
      about(x, 0, 1, 0);
      Recipes.removed(x, 0, 5);
      Sentences.due("[[1 2] [4 3]]", Looks.tree(x));
      about(x, 0, 1, 0);
      x.remove(1);
      Sentences.due("[4 3 2]", Looks.tree(x));
      about(x, 0, 1, 1);
    });
  }

  // ---- putting in

  private static void choosing() {
    Sentences.sentence("An entry is put in at a level (a rectangle at the level 0) like this: from the root on, as long as the node is of a greater level,", () -> {
      Sentences.due("[0]", Looks.tree(Recipes.row(50)));
      ShallowBoxes x = Recipes.full();
      Sentences.due(2, () -> x.about(2));
      for (int i = 0; i < 24; i++) { int n = i; Sentences.due(0, () -> x.node(x.rectangle(n, 4), 0)); }
    });
    Sentences.sentence("the entry of it is chosen whose box has to be enlarged least (by the area of its join with the box of what is put in, less its own area),", () -> {
      // The boxes are 0 to 49 and 60 to 89: up to 54 the first one is enlarged less, from 55 on the second one.
      for (int a : new int[] {0, 30, 49, 50, 53, 54}) tree("[[0 1 2 5] [4 3]]", squaresAnd(a, a));
      for (int a : new int[] {55, 56, 59, 60, 89, 99}) tree("[[0 1 2] [4 3 5]]", squaresAnd(a, a));
    });
    Sentences.sentence("has to be enlarged least (by the area of its join with the box of what is put in, less its own area),", () -> {
      // One cell more or less: a row of cells, so that the first box is enlarged by 6 or 7 and the second one by 7 or 6.
      tree("[[0 1 2 5] [4 3]]", low(squaresAnd(53, 55)));
      tree("[[0 1 2] [4 3 5]]", low(squaresAnd(54, 56)));
      // The second box has more area, but is enlarged by one cell less.
      int[] column = low(Recipes.corners(0, 10, 60, 50, 80, 35));
      column[22] = 35;
      tree("[[0 1] [4 2 3 5]]", column);
      column[20] = 34;
      column[22] = 34;
      tree("[[0 1 5] [4 2 3]]", column);
    });
    Sentences.sentence("of several the one with the least area,", () -> {
      // Both are enlarged by 60 cells: the first one has 500, the second one 300.
      tree("[[0 1 2] [4 3 5]]", squaresAnd(54, 55));
      tree("[[0 1 2 5] [4 3]]", squaresAnd(53, 55));
      tree("[[0 1 2] [4 3 5]]", squaresAnd(54, 56));
    });
    Sentences.sentence("of several the first one.", () -> {
      // The boxes 0 to 29 and 60 to 89 are as large, and as near to the columns 44 and 45.
      int[] squares = Recipes.corners(0, 20, 80, 60, 10, 44);
      squares[22] = 45;
      tree("[[0 1 4 5] [2 3]]", squares);
      squares[22] = 46;
      tree("[[0 1 4] [2 3 5]]", squares);
      tree("[[0 2 4 5] [1 3]]", Recipes.corners(7, 7, 7, 7, 7, 70));
    });
    Sentences.sentence("In the node that is reached it becomes the last entry.", () -> {
      ShallowBoxes x = Recipes.row(30, 50, 70);
      x.remove(0);
      x.add(0, 0, 9, 9);
      Sentences.due("[1 2 0]", Looks.tree(x));
      x.remove(2);
      x.add(99, 99, 99, 99);
      Sentences.due("[1 0 2]", Looks.tree(x));
    });
  }

  /** The same with only the uppermost row of each. */
  private static int[] low(int[] corners) {
    int[] all = corners.clone();
    for (int i = 0; i < all.length; i += 4) all[i + 3] = all[i + 1];
    return all;
  }

  /** Five squares in the nodes [0 1 2], 0 to 49, and [4 3], 60 to 89, and a rectangle of the columns from x1 to x2. */
  private static int[] squaresAnd(int x1, int x2) {
    int[] all = Recipes.corners(0, 20, 40, 60, 80, x1);
    all[22] = x2;
    return all;
  }

  private static void throwing() {
    Sentences.sentence("If a node has 5 entries then:", () -> {
      ShallowBoxes x = Recipes.row(0, 20, 40, 60);
      about(x, 0, 0, 0);
      x.add(80, 0, 89, 9);
      about(x, 0, 1, 0);
      x.add(10, 0, 19, 9);
      about(x, 0, 1, 0);
      x.add(30, 0, 39, 9);
      about(x, 1, 2, 0);
    });
    Sentences.sentence("- If it is not the root, and in this call no node of its level has thrown an entry out so far, it throws one out:", () -> {
      // The root is split without throwing out, of the level 0 and of a greater one.
      about(Recipes.row(7, 7, 7, 7, 7), 0, 1, 0);
      // 2, the far end of [0 1 2 5 6], goes to the other node.
      about(Recipes.of(THROWN), 1, 1, 0);
      // Each call may throw out anew: an add, a remove and a move, each behind an add that threw out.
      ShallowBoxes x = Recipes.of(THROWN);
      x.add(10, 0, 19, 9);
      about(x, 2, 2, 0);
      ShallowBoxes y = Recipes.row(30, 40, 30, 60, 40, 70, 0, 60, 30);
      Sentences.due("[[0 2 6 8] [4 1] [5 3 7]]", Looks.tree(y));
      about(y, 1, 2, 0);
      y.remove(1);
      Sentences.due("[[4 0 2] [6 8] [5 3 7]]", Looks.tree(y));
      about(y, 2, 3, 1);
      ShallowBoxes z = Recipes.row(60, 0, 10, 20, 80, 10, 10);
      Sentences.due("[[3 2 5] [1 6] [4 0]]", Looks.tree(z));
      about(z, 1, 2, 0);
      z.move(0, -40, 0);
      Sentences.due("[[3 5 4 0] [1 6 2]]", Looks.tree(z));
      about(z, 2, 2, 1);
    });
    Sentences.sentence("and this one is put in again, at the same level, from the root on.", () -> {
      tree("[[0 1 5 6] [4 3 2]]", THROWN);
      // With 3 at 90 to 99 the other node is farther off, and it comes back to its own one.
      int[] back = THROWN.clone();
      back[12] = 90;
      back[14] = 99;
      tree("[[0 1 5] [2 6] [3 4]]", back);
      about(Recipes.of(back), 1, 2, 0);
    });
  }

  // The nodes are [0 1 2], 0 to 49, and [4 3], 60 to 89, until 6 is the fifth entry of the first one.
  private static final int[] THROWN = {0, 0, 9, 9, 20, 0, 29, 9, 49, 0, 49, 9, 60, 0, 69, 9, 80, 0, 89, 9, 5, 0, 14, 9, 10, 0, 19, 9};

  private static void throwingAgain() {
    Sentences.sentence("Otherwise it is split.", () -> {
      // The entry comes back to its node: the same level throws out no second time.
      about(Recipes.row(0, 20, 40, 60, 80, 10, 30), 1, 2, 0);
      // Another node of the same level, which has not thrown out itself, is split at once.
      int[] four = THROWN.clone();
      int[] more = new int[four.length + 8];
      System.arraycopy(four, 0, more, 0, 20);
      System.arraycopy(new int[] {65, 0, 74, 9, 75, 0, 84, 9}, 0, more, 20, 8);
      System.arraycopy(four, 20, more, 28, 8);
      ShallowBoxes x = Recipes.of(more);
      about(x, 1, 2, 0);
      Sentences.due("[[0 1 7 8] [4 6] [2 3 5]]", Looks.tree(x));
    });
    Sentences.sentence("in this call no node of its level has thrown an entry out so far", () -> {
      ShallowBoxes x = Recipes.row(50, 70, 50, 0, 40, 30, 0, 70, 70, 20, 30, 40, 90, 70, 70);
      Sentences.due("[[[8 1 13 14] [12 7] [0 2] [11 4]] [[6 3] [9 5 10]]]", Looks.tree(x));
      int thrown = x.about(5), splits = x.about(6);
      // The level 0 throws 8 out and is split when it comes back; the level 1 throws [11 4] out.
      x.add(70, 0, 79, 9);
      Sentences.due("[[[1 14 8] [13 15] [12 7] [0 2]] [[6 3] [9 5 10] [11 4]]]", Looks.tree(x));
      about(x, thrown + 2, splits + 1, 0);
    });
  }

  private static void middles() {
    Sentences.sentence("the one whose middle is farthest from the middle of the node's box (the middle of a box is ((x1 + x2) / 2, (y1 + y2) / 2), exactly),", () -> {
      // The box 0 to 50 has the middle 25: 0 lies 20.5 from it, 2 lies 21 from it.
      tree("[[0 1 5] [2 6] [3 4]]", 0, 0, 9, 9, 20, 0, 29, 9, 42, 0, 50, 9, 41, 90, 50, 99, 0, 90, 10, 99, 20, 0, 29, 9, 20, 0, 29, 9);
      // With 41 to 50 it lies 20.5 from it as well, and 0 is the first one.
      tree("[[2 6] [0 1 5] [3 4]]", 0, 0, 9, 9, 20, 0, 29, 9, 41, 0, 50, 9, 41, 90, 50, 99, 0, 90, 10, 99, 20, 0, 29, 9, 20, 0, 29, 9);
    });
    Sentences.sentence("the one whose middle is farthest from the middle of the node's box", () -> {
      // From 24.5, 24.5 it is 24.5 to the middle of 2, and 4 and 24 to that of 5, which is less, though 28 is more.
      tree("[[0 1 5 6] [4 3 2]]", 0, 20, 9, 29, 20, 20, 29, 29, 49, 24, 49, 25, 60, 20, 69, 29, 80, 20, 89, 29, 20, 0, 21, 1, 24, 40, 25, 49);
      // It is 15 and 0 to the middle of 0, and 15 and 10 to that of 2, which is more, though the greater ones are as large.
      tree("[[0 1 5 6] [4 3 2]]", 20, 20, 29, 29, 30, 30, 39, 39, 50, 30, 59, 39, 50, 10, 59, 19, 70, 40, 79, 49, 40, 30, 49, 39, 30, 10, 39, 19);
    });
    Sentences.sentence("of several the first one; and this one is put in again", () -> {
      // 0 and 2 lie 20 from the middle of 0 to 49.
      ShallowBoxes x = Recipes.row(0, 20, 40, 60, 80, 10, 30);
      Sentences.due("[[2 1 6] [0 5] [4 3]]", Looks.tree(x));
      tree("[[2 1 6] [0 5] [4 3]]", Recipes.corners(0, 20, 40, 60, 80, 10, 30));
    });
  }

  private static void seeds() {
    Sentences.sentence("The seeds are the two entries whose join has the greatest area less both their areas (perhaps below 0),", () -> {
      // Each lies in all that are larger: a pair has less 0 by the smaller one, 100 with 3.
      int[] nested = {0, 0, 99, 99, 0, 0, 49, 49, 0, 0, 39, 39, 0, 0, 9, 9, 0, 0, 19, 19};
      tree("[[0 1 2] [3 4]]", nested);
      // The greatest one is 0, of the halves 1 and 2; all others are below 0.
      tree("[[1 0 3] [2 4]]", 10, 10, 89, 89, 0, 0, 49, 99, 50, 0, 99, 99, 20, 20, 79, 79, 15, 15, 84, 84);
      // The join of 1 and 4 is as large as that of 0 and 4, but 1 is smaller than 0.
      tree("[[1 0 2] [4 3]]", 0, 0, 59, 9, 0, 0, 9, 9, 0, 0, 9, 9, 5, 0, 14, 9, 80, 0, 89, 9);
    });
    Sentences.sentence("of several pairs the first one (by the first entry, then by the second one).", () -> {
      // Two pairs of corners lie as badly: (0, 4) stands before (1, 2).
      tree("[[0 1] [4 2 3]]", 0, 0, 0, 0, 99, 0, 99, 0, 0, 99, 0, 99, 50, 50, 50, 50, 99, 99, 99, 99);
      // (0, 1) stands before (0, 2).
      tree("[[0 3 4] [1 2]]", 0, 0, 0, 0, 99, 49, 99, 49, 49, 99, 49, 99, 10, 10, 10, 10, 20, 20, 20, 20);
      tree("[[0 2 4] [1 3]]", Recipes.corners(7, 7, 7, 7, 7));
    });
    Sentences.sentence("The first seed begins the first group, the second one the second group.", () -> {
      tree("[[2 0 1] [3 4]]", Recipes.corners(20, 20, 0, 90, 80));
      tree("[[3 0 1] [4 2]]", Recipes.corners(10, 10, 80, 0, 90));
      tree("[[0 1] [2 3 4]]", Recipes.corners(90, 80, 0, 5, 10));
    });
  }

  private static void groups() {
    Sentences.sentence("The other entries, in their order, go to the group whose box is enlarged least by it,", () -> {
      // Once 60 has gone to 90, the way is shorter to it from 44; otherwise it is shorter to 0.
      tree("[[0 4] [1 2 3]]", Recipes.corners(0, 90, 60, 44, 5));
      tree("[[0 2 3] [1 4]]", Recipes.corners(0, 90, 44, 60, 5));
      // From 39 it is 39 columns to 0, and 41 to 80; from 41 it is 41 and 39.
      tree("[[0 3] [1 2 4]]", Recipes.corners(0, 90, 80, 39, 85));
      tree("[[0 4] [1 2 3]]", Recipes.corners(0, 90, 80, 41, 85));
    });
    Sentences.sentence("but if a group has to get all entries that are left to have 2, it gets them.", () -> {
      // The last one, at the seed of the other group, is all that is left.
      tree("[[0 1 2] [4 3]]", Recipes.corners(0, 0, 0, 0, 90));
      tree("[[0 4] [1 2 3]]", Recipes.corners(0, 90, 90, 90, 90));
      // With 2 in each group the last one goes where it belongs.
      tree("[[0 2] [1 3 4]]", Recipes.corners(0, 90, 0, 90, 90));
      tree("[[0 2 4] [1 3]]", Recipes.corners(0, 90, 0, 90, 0));
    });
  }

  private static void groupsAtATie() {
    Sentences.sentence("of both the one with the smaller area,", () -> {
      // 2 is 43 columns from both groups: the first one has 100 cells, the second one 50.
      tree("[[0 3 4] [1 2]]", 0, 0, 9, 9, 95, 0, 99, 9, 52, 0, 52, 9, 0, 0, 9, 9, 0, 0, 9, 9);
      tree("[[0 2] [1 3 4]]", 0, 0, 4, 9, 90, 0, 99, 9, 47, 0, 47, 9, 90, 0, 99, 9, 90, 0, 99, 9);
    });
    Sentences.sentence("then the one with fewer entries,", () -> {
      tree("[[0 2 4] [1 3]]", squaresWithMiddle(3, 0, 90, 0, 49, 0));
      tree("[[0 3] [1 2 4]]", squaresWithMiddle(3, 0, 90, 90, 49, 90));
    });
    Sentences.sentence("then the first one;", () -> {
      tree("[[0 2] [1 3 4]]", squaresWithMiddle(2, 0, 90, 49, 90, 90));
      tree("[[0 2 4] [1 3]]", squaresWithMiddle(4, 0, 90, 0, 90, 49));
    });
  }

  /** Squares, of which one is only the two columns 49 and 50, as far from 0 to 9 as from 90 to 99. */
  private static int[] squaresWithMiddle(int which, int... x1) {
    int[] all = Recipes.corners(x1);
    all[4 * which + 2] = 50;
    return all;
  }

  private static void newNodes() {
    Sentences.sentence("The first group stays in the node, in the order in which they came to it; the second one becomes a new node, which stands just behind it in the node above it (which may have 5 entries then).", () -> {
      // The first of two nodes is split: the new one stands between them.
      Sentences.due("[[0 1 2] [4 3]]", Looks.tree(Recipes.row(0, 20, 40, 60, 80)));
      Sentences.due("[[2 1 6] [0 5] [4 3]]", Looks.tree(Recipes.row(0, 20, 40, 60, 80, 10, 30)));
      // The last of them is split: the new one is the last one.
      tree("[[0 1] [2 5 6] [4 3]]", Recipes.corners(0, 5, 60, 80, 90, 70, 65));
      // The node above, the root, has 5 entries then, and is split itself.
      ShallowBoxes x = Recipes.row(60, 70, 40, 30, 10, 50, 60, 80, 70, 60);
      Sentences.due(4, () -> x.node(0, 1));
      int splits = x.about(6);
      x.add(60, 0, 69, 9);
      Sentences.due("[[[1 8] [9 10 6] [7 0]] [[4 3] [2 5]]]", Looks.tree(x));
      Sentences.due(splits + 2, () -> x.about(6));
    });
    Sentences.sentence("If the root is split, a new root, one level higher, gets both.", () -> {
      ShallowBoxes x = Recipes.row(7, 7, 7, 7, 7);
      Sentences.due(1, () -> x.about(2));
      Sentences.due(2, () -> x.node(0, 1));
      Sentences.due(0, () -> x.node(1, 6));
      Sentences.due(0, () -> x.node(2, 6));
      ShallowBoxes y = Recipes.row(60, 70, 40, 30, 10, 50, 60, 80, 70, 60, 60);
      Sentences.due(2, () -> y.about(2));
      Sentences.due(2, () -> y.node(0, 1));
    });
  }

  // ---- taking out

  private static void dissolving() {
    Sentences.sentence("A rectangle is taken out of its node.", () -> {
      Sentences.due("[]", Looks.tree(Recipes.removed(Recipes.row(7), 0)));
      Sentences.due("[1 2 3]", Looks.tree(Recipes.removed(Recipes.row(1, 2, 3, 4), 0)));
      Sentences.due("[0 1 3]", Looks.tree(Recipes.removed(Recipes.row(1, 2, 3, 4), 2)));
      Sentences.due("[0 1 2]", Looks.tree(Recipes.removed(Recipes.row(1, 2, 3, 4), 3)));
    });
    Sentences.sentence("Then, from this node upward: a node that is not the root, and has fewer than 2 entries, is taken out of the node above it, and its entry (if it has one) is kept apart.", () -> {
      // With 2 left it stays, with 1 it goes; the root stays with 1 and with none.
      ShallowBoxes x = Recipes.seven();
      Sentences.due("[[1 6] [0 5] [4 3]]", Looks.tree(Recipes.removed(x, 2)));
      about(x, 1, 2, 0);
      Sentences.due("[[1 6 0] [4 3]]", Looks.tree(Recipes.removed(x, 5)));
      about(x, 1, 2, 1);
      ShallowBoxes y = Recipes.row(0, 50);
      Sentences.due("[1]", Looks.tree(Recipes.removed(y, 0)));
      Sentences.due("[]", Looks.tree(Recipes.removed(y, 1)));
      about(y, 0, 0, 0);
      // The node above has 1 left as well, and goes too.
      ShallowBoxes z = twoLevels();
      int splits = z.about(6), thrown = z.about(5);
      z.remove(3);
      about(z, thrown, splits, 2);
      // The node above has 2 left, and stays.
      ShallowBoxes w = twoLevels();
      w.remove(1);
      Sentences.due("[[[9 10 6] [7 0 8]] [[4 3] [2 5]]]", Looks.tree(w));
      about(w, thrown, splits, 1);
    });
  }

  private static ShallowBoxes twoLevels() {
    ShallowBoxes x = Recipes.twoLevels();
    Sentences.due("[[[1 8] [9 10 6] [7 0]] [[4 3] [2 5]]]", Looks.tree(x));
    return x;
  }

  private static void newRoots() {
    Sentences.sentence("Then, as long as the root is not of the level 0 and has one entry, this one becomes the root.", () -> {
      ShallowBoxes x = Recipes.row(0, 20, 40, 60, 80);
      x.remove(4);
      Sentences.due("[0 1 2 3]", Looks.tree(x));
      Sentences.due(Sentences.NONE, () -> x.node(0, 6));
      about(x, 0, 1, 1);
      // However often: what went can be had again.
      for (int i = 0; i < 60; i++) {
        x.add(80, 0, 89, 9);
        Sentences.due(3, () -> x.about(1));
        x.remove(4);
        Sentences.due(1, () -> x.about(1));
      }
      Sentences.due("[0 1 2 3]", Looks.tree(x));
      // A root of the level 0 keeps its only entry.
      ShallowBoxes y = Recipes.removed(Recipes.row(0, 50), 1);
      Sentences.due("[0]", Looks.tree(y));
      Sentences.due(0, () -> y.about(2));
      Sentences.due(0, () -> y.rectangle(0, 4));
      // With two entries left a root stays.
      ShallowBoxes z = Recipes.removed(Recipes.seven(), 3);
      Sentences.due(1, () -> z.about(2));
      Sentences.due(2, () -> z.node(0, 1));
      // A root of the level 2 gives way to one of the level 1.
      ShallowBoxes w = twoLevels();
      w.remove(3);
      Sentences.due(1, () -> w.about(2));
    });
  }

  private static void puttingBack() {
    Sentences.sentence("At last what was kept apart is put in again, at the level of the node that it was in,", () -> {
      // The only root that is left gets its fifth entry, and is split.
      ShallowBoxes x = Recipes.removed(Recipes.seven(), 5);
      Sentences.due("[[2 1 6 0] [4 3]]", Looks.tree(x));
      x.remove(3);
      Sentences.due("[[0 2 1] [4 6]]", Looks.tree(x));
      // [2 5] comes to the level 1 again.
      ShallowBoxes y = twoLevels();
      y.remove(3);
      Sentences.due("[[1 8] [9 10 6 4] [7 0] [2 5]]", Looks.tree(y));
      Sentences.due(0, () -> y.node(4, 0));
    });
    Sentences.sentence("those of lower levels first.", () -> {
      // 4 lies nearest to [2 5], but is put in before it.
      ShallowBoxes x = twoLevels();
      x.remove(3);
      Sentences.due("[[1 8] [9 10 6 4] [7 0] [2 5]]", Looks.tree(x));
      ShallowBoxes y = twoLevels();
      y.remove(4);
      Sentences.due(2, () -> y.rectangle(3, 4));
    });
  }
}
