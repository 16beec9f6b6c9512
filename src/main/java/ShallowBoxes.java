/** Rectangles of cells in a shallow tree of nodes with few entries. README.md tells how to use it. */
public final class ShallowBoxes {
    public static final int NONE = -1;

    private static final int SIDE = 100;
    private static final int LONGEST_TEXT = 100;
    private static final int LAST_CHARACTER = 255;
    private static final int REMEMBERED = 14;
    private static final int SLOTS = 2;
    private static final int MOST_TURNS = 60;
    private static final int NO_ROOM = NONE - 100000;
    private static final long GROUP = 1000000000L;

    private static final int RECTANGLES = 24;
    // Each node but a root of the level 0 has 2 entries or more, so that 24 rectangles
    // need at most 12 + 6 + 3 + 1 nodes, on 4 levels; the rest is never used.
    private static final int NODES = 24;
    private static final int LEVELS = 8;
    // An item is a rectangle (by its number), or a node (behind the rectangles), or,
    // last, the box that a question is about.
    private static final int ASKED = RECTANGLES + NODES;
    private static final int ITEMS = ASKED + 1;
    // A rectangle stands one level below the nodes of the level 0, as each entry stands
    // one level below its node.
    private static final int RECTANGLE_LEVEL = -1;
    private static final int FREE = -2;
    private static final int LEAST_ENTRIES = 2;
    private static final int MOST_ENTRIES = 4;
    // A node has one entry too many until it throws one out or is split.
    private static final int PLACES = MOST_ENTRIES + 1;
    private static final int CORNERS = 4;

    private final Tree tree;
    // What would be is tried out here.
    private final Tree trial;
    private final Tree[] remembered;
    private int oldest;
    private int rememberedCount;
    private final Tree[] slots;
    private final int[] slotUsed;
    private final RectangleText text;

    public ShallowBoxes() {
        tree = new Tree();
        trial = new Tree();
        remembered = new Tree[REMEMBERED];
        for (int i = 0; i < remembered.length; i++) {
            remembered[i] = new Tree();
        }
        slots = new Tree[SLOTS];
        for (int i = 0; i < slots.length; i++) {
            slots[i] = new Tree();
        }
        slotUsed = new int[SLOTS];
        text = new RectangleText();
    }

    // ---- text

    public int append(int c) throws IllegalArgumentException, IllegalStateException {
        if (c < 0 || c > LAST_CHARACTER) {
            throw new IllegalArgumentException("no character");
        }
        if (text.length >= LONGEST_TEXT) {
            throw new IllegalStateException("the text is full");
        }
        return text.lengthen(c);
    }

    public int clearText() {
        int length = text.length;
        text.length = 0;
        return length;
    }

    public int errorPosition() {
        return text.read();
    }

    // ---- what there is

    public int about(int what) throws IllegalArgumentException {
        switch (what) {
            case 0:
                return tree.countRectangles();
            case 1:
                return tree.countNodes();
            case 2:
                return tree.levelOf(tree.root);
            case 3:
                return tree.overlap();
            case 4:
                return tree.areaBelowRoot();
            case 5:
                return tree.thrownOut;
            case 6:
                return tree.splits;
            case 7:
                return tree.dissolved;
            default:
                throw new IllegalArgumentException("what is not 0 to 7");
        }
    }

    public int rectangle(int i, int what) throws IndexOutOfBoundsException, IllegalArgumentException {
        if (!tree.hasRectangle(i)) {
            throw new IndexOutOfBoundsException("no such rectangle");
        }
        if (what < 0 || what > 4) {
            throw new IllegalArgumentException("what is not 0 to 4");
        }
        return what == 4 ? tree.numberOf(tree.nodeAbove(i)) : tree.corner(i, what);
    }

    public int node(int n, int what) throws IndexOutOfBoundsException, IllegalArgumentException {
        int node = tree.nodeNumbered(n);
        if (node == NONE) {
            throw new IndexOutOfBoundsException("no such node");
        }
        if (what < 0 || what > 6) {
            throw new IllegalArgumentException("what is not 0 to 6");
        }
        if (what == 0) {
            return tree.levelOf(node);
        }
        if (what == 1) {
            return tree.sizeOf(node);
        }
        if (what == 6) {
            return tree.numberOf(tree.nodeAbove(node));
        }
        return tree.sizeOf(node) == 0 ? NONE : tree.corner(node, what - 2);
    }

    public int entry(int n, int k) throws IndexOutOfBoundsException, IllegalArgumentException {
        int node = tree.nodeNumbered(n);
        if (node == NONE) {
            throw new IndexOutOfBoundsException("no such node");
        }
        if (k < 0) {
            throw new IllegalArgumentException("k is negative");
        }
        if (k >= tree.sizeOf(node)) {
            return NONE;
        }
        int item = tree.entryOf(node, k);
        return tree.levelOf(node) == 0 ? item : tree.numberOf(item);
    }

    // ---- actions

    public int add(int x1, int y1, int x2, int y2) throws IllegalArgumentException, IllegalStateException {
        if (!isBox(x1, y1, x2, y2)) {
            throw new IllegalArgumentException("no such box");
        }
        if (tree.countRectangles() >= RECTANGLES) {
            throw new IllegalStateException("there are 24 rectangles");
        }
        remember();
        int number = tree.lowestFreeNumber();
        tree.beginCall();
        tree.setBox(number, x1, y1, x2, y2);
        tree.putIn(number);
        return number;
    }

    public int addAll() throws IllegalStateException {
        if (text.read() != NONE) {
            throw new IllegalStateException("the text is not rectangles");
        }
        if (tree.countRectangles() + text.count > RECTANGLES) {
            throw new IllegalStateException("there would be more than 24 rectangles");
        }
        remember();
        tree.beginCall();
        for (int i = 0; i < text.count; i++) {
            int number = tree.lowestFreeNumber();
            tree.setBox(number, text.corner(i, 0), text.corner(i, 1), text.corner(i, 2), text.corner(i, 3));
            tree.putIn(number);
        }
        return tree.countRectangles();
    }

    public int remove(int i) throws IndexOutOfBoundsException {
        if (!tree.hasRectangle(i)) {
            throw new IndexOutOfBoundsException("no such rectangle");
        }
        remember();
        tree.beginCall();
        tree.takeOut(i);
        return tree.countNodes();
    }

    public int move(int i, int dx, int dy)
            throws IndexOutOfBoundsException, IllegalArgumentException, IllegalStateException {
        if (!tree.hasRectangle(i)) {
            throw new IndexOutOfBoundsException("no such rectangle");
        }
        if (dx <= -SIDE || dx >= SIDE || dy <= -SIDE || dy >= SIDE) {
            throw new IllegalArgumentException("dx or dy is not -99 to 99");
        }
        if (!tree.canShift(i, dx, dy)) {
            throw new IllegalStateException("it would have cells that there are not");
        }
        remember();
        tree.beginCall();
        tree.takeOut(i);
        tree.shiftBox(i, dx, dy);
        tree.putIn(i);
        return tree.numberOf(tree.nodeAbove(i));
    }

    public int undo() throws IllegalStateException {
        if (rememberedCount == 0) {
            throw new IllegalStateException("no state is remembered");
        }
        rememberedCount--;
        tree.takeOver(treeAt(remembered, (oldest + rememberedCount) % REMEMBERED));
        return rememberedCount;
    }

    // ---- what is asked, and what would be

    public int window(int x1, int y1, int x2, int y2) throws IllegalArgumentException {
        if (!isBox(x1, y1, x2, y2)) {
            throw new IllegalArgumentException("no such box");
        }
        tree.setBox(ASKED, x1, y1, x2, y2);
        int met = 0;
        for (int i = 0; i < RECTANGLES; i++) {
            if (tree.hasRectangle(i) && tree.commonCells(i, ASKED) > 0) {
                met |= 1 << i;
            }
        }
        return met;
    }

    public int looks(int x1, int y1, int x2, int y2) throws IllegalArgumentException {
        if (!isBox(x1, y1, x2, y2)) {
            throw new IllegalArgumentException("no such box");
        }
        tree.setBox(ASKED, x1, y1, x2, y2);
        return tree.lookedAt(ASKED);
    }

    public int nearest(int x, int y, int k) throws IllegalArgumentException {
        if (!isCell(x, y)) {
            throw new IllegalArgumentException("no such cell");
        }
        if (k < 0) {
            throw new IllegalArgumentException("k is negative");
        }
        return tree.ranked(x, y, k);
    }

    public int chosen(int x1, int y1, int x2, int y2) throws IllegalArgumentException {
        if (!isBox(x1, y1, x2, y2)) {
            throw new IllegalArgumentException("no such box");
        }
        tree.setBox(ASKED, x1, y1, x2, y2);
        return tree.numberOf(tree.reached(ASKED, 0));
    }

    public int ifAdded(int x1, int y1, int x2, int y2) throws IllegalArgumentException {
        if (!isBox(x1, y1, x2, y2)) {
            throw new IllegalArgumentException("no such box");
        }
        if (tree.countRectangles() >= RECTANGLES) {
            return NO_ROOM;
        }
        trial.takeOver(tree);
        tryAdding(x1, y1, x2, y2);
        return trial.overlap() - tree.overlap();
    }

    public int bestRemoval() {
        int best = NONE;
        int least = 0;
        for (int i = 0; i < RECTANGLES; i++) {
            if (tree.hasRectangle(i)) {
                trial.takeOver(tree);
                trial.beginCall();
                trial.takeOut(i);
                int left = trial.overlap();
                if (best == NONE || left < least) {
                    best = i;
                    least = left;
                }
            }
        }
        return best;
    }

    public int anew() {
        trial.clear();
        for (int i = 0; i < RECTANGLES; i++) {
            if (tree.hasRectangle(i)) {
                tryAdding(tree.corner(i, 0), tree.corner(i, 1), tree.corner(i, 2), tree.corner(i, 3));
            }
        }
        return trial.overlap();
    }

    // ---- scripts, simulations

    public int runScript(int n, long script) throws IllegalArgumentException {
        if (n < 1 || n > 2) {
            throw new IllegalArgumentException("n is not 1 or 2");
        }
        if (script < 0 || script >= (n == 1 ? GROUP : GROUP * GROUP)) {
            throw new IllegalArgumentException("script is negative or too long");
        }
        trial.takeOver(tree);
        for (int i = 0; i < n; i++) {
            long group = i == n - 1 ? script % GROUP : script / GROUP;
            if (!succeeds((int) group)) {
                return i;
            }
        }
        return NONE;
    }

    public int simulate(long seed, int m) throws IllegalArgumentException {
        if (m < 1 || m > MOST_TURNS) {
            throw new IllegalArgumentException("m is not 1 to 60");
        }
        trial.takeOver(tree);
        long x = seed;
        for (int turn = 0; turn < m; turn++) {
            x = x * 6364136223846793005L + 1442695040888963407L;
            takeTurn((int) (x >>> 33));
        }
        return 1000 * trial.countNodes() + trial.countRectangles();
    }

    // ---- save slots

    public int save(int slot) throws IndexOutOfBoundsException {
        if (slot < 0 || slot >= SLOTS) {
            throw new IndexOutOfBoundsException("no such save slot");
        }
        Tree saved = treeAt(slots, slot);
        if (saved != null) {
            saved.takeOver(tree);
        }
        put(slotUsed, slot, 1);
        return tree.countRectangles();
    }

    public int restore(int slot) throws IndexOutOfBoundsException, IllegalStateException {
        if (slot < 0 || slot >= SLOTS) {
            throw new IndexOutOfBoundsException("no such save slot");
        }
        if (get(slotUsed, slot) == 0) {
            throw new IllegalStateException("nothing has been saved in it");
        }
        tree.takeOver(treeAt(slots, slot));
        rememberedCount = 0;
        return tree.countRectangles();
    }

    // ---- inside

    private void remember() {
        if (rememberedCount == REMEMBERED) {
            oldest = (oldest + 1) % REMEMBERED;
            rememberedCount--;
        }
        Tree free = treeAt(remembered, (oldest + rememberedCount) % REMEMBERED);
        if (free != null) {
            free.takeOver(tree);
        }
        rememberedCount++;
    }

    private void tryAdding(int x1, int y1, int x2, int y2) {
        int number = trial.lowestFreeNumber();
        trial.beginCall();
        trial.setBox(number, x1, y1, x2, y2);
        trial.putIn(number);
    }

    private void takeTurn(int r) {
        int there = trial.countRectangles();
        if (there == RECTANGLES || r % 4 == 0 && there > 0) {
            int i = r / 4 % RECTANGLES;
            if (trial.hasRectangle(i)) {
                trial.beginCall();
                trial.takeOut(i);
            }
        } else {
            int x1 = r / 4 % 90;
            int y1 = r / 512 % 90;
            tryAdding(x1, y1, x1 + r / 65536 % 10, y1 + r / 1048576 % 10);
        }
    }

    /** Does one command of a script on the trial tree, and tells whether it succeeds. */
    private boolean succeeds(int group) {
        int a = group / 1000000 % 100;
        int b = group / 10000 % 100;
        int c = group / 100 % 100;
        int d = group % 100;
        int kind = group / 100000000;
        switch (kind) {
            case 1:
                if (!isBox(a, b, a + c, b + d) || trial.countRectangles() >= RECTANGLES) {
                    return false;
                }
                tryAdding(a, b, a + c, b + d);
                return true;
            case 2:
                if (b != 0 || c != 0 || d != 0 || !trial.hasRectangle(a)) {
                    return false;
                }
                trial.beginCall();
                trial.takeOut(a);
                return true;
            case 3:
            case 4:
                int dx = kind == 3 ? b : -b;
                int dy = kind == 3 ? c : -c;
                if (d != 0 || !trial.hasRectangle(a) || !trial.canShift(a, dx, dy)) {
                    return false;
                }
                trial.beginCall();
                trial.takeOut(a);
                trial.shiftBox(a, dx, dy);
                trial.putIn(a);
                return true;
            default:
                return holds(kind, a, b, c, d);
        }
    }

    private boolean holds(int kind, int a, int b, int c, int d) {
        switch (kind) {
            case 5:
                return a == 0 && b == 0 && c == 0 && trial.countNodes() <= d;
            case 6:
                return a == 0 && b < 10 && trial.overlap() <= (b * 100 + c) * 100 + d;
            case 7:
                return d == 0 && trial.hasRectangle(c) && trial.ranked(a, b, 0) == c;
            case 8:
                return d == 0 && trial.hasRectangle(c) && trial.distance(c, a, b) == 0;
            default:
                return false;
        }
    }

    private static boolean isCell(int x, int y) {
        return x >= 0 && x < SIDE && y >= 0 && y < SIDE;
    }

    private static boolean isBox(int x1, int y1, int x2, int y2) {
        return x1 >= 0 && x1 <= x2 && x2 < SIDE && y1 >= 0 && y1 <= y2 && y2 < SIDE;
    }

    private static Tree treeAt(Tree[] row, int i) {
        return row != null && i >= 0 && i < row.length ? row[i] : null;
    }

    private static int get(int[] row, int i) {
        return row != null && i >= 0 && i < row.length ? row[i] : 0;
    }

    private static void put(int[] row, int i, int value) {
        if (row != null && i >= 0 && i < row.length) {
            row[i] = value;
        }
    }

    private static void copy(int[] from, int[] to) {
        if (from != null && to != null) {
            System.arraycopy(from, 0, to, 0, Math.min(from.length, to.length));
        }
    }

    /** The text buffer, and the rectangles that were read from it last. */
    private static final class RectangleText {
        private final int[] characters = new int[LONGEST_TEXT];
        private int length;
        // The shortest rectangle takes 7 characters.
        private final int[] corners = new int[LONGEST_TEXT / 7 * CORNERS];
        private int count;
        private int at;
        private boolean wrong;

        int lengthen(int c) {
            put(characters, length, c);
            length++;
            return length;
        }

        int corner(int i, int which) {
            return get(corners, i * CORNERS + which);
        }

        /** Reads the rectangles; returns the error position. */
        int read() {
            at = 0;
            count = 0;
            wrong = false;
            for (int step = 0; step <= LONGEST_TEXT && !wrong; step++) {
                readRectangle();
                if (!wrong && at == length) {
                    return NONE;
                }
                expect(';');
            }
            return at;
        }

        private void readRectangle() {
            int x1 = readNumber(0, SIDE - 1);
            expect(',');
            int y1 = readNumber(0, SIDE - 1);
            expect(':');
            int width = readNumber(1, SIDE - x1);
            expect('x');
            int height = readNumber(1, SIDE - y1);
            if (!wrong) {
                int first = count * CORNERS;
                put(corners, first, x1);
                put(corners, first + 1, y1);
                put(corners, first + 2, x1 + width - 1);
                put(corners, first + 3, y1 + height - 1);
                count++;
            }
        }

        private void expect(int sign) {
            if (wrong || at >= length || get(characters, at) != sign) {
                wrong = true;
            } else {
                at++;
            }
        }

        /** Stops before a digit that is not allowed: where it stands no other sign is due. */
        private int readNumber(int least, int most) {
            int value = 0;
            int digits = 0;
            while (!wrong && at < length && (digits == 0 || value > 0)) {
                int digit = get(characters, at) - '0';
                int longer = value * 10 + digit;
                if (digit < 0 || digit > 9 || longer < least || longer > most) {
                    break;
                }
                value = longer;
                digits++;
                at++;
            }
            if (digits == 0) {
                wrong = true;
            }
            return value;
        }
    }

    /** A state: the rectangles, the nodes, and what was counted so far. */
    private static final class Tree {
        private final int[] box = new int[ITEMS * CORNERS];
        private final int[] level = new int[ITEMS];
        private final int[] above = new int[ITEMS];
        private final int[] size = new int[ITEMS];
        private final int[] entries = new int[ITEMS * PLACES];
        private int root;
        private int thrownOut;
        private int splits;
        private int dissolved;
        // By level, 1 if a node of it has thrown an entry out in this call.
        private final int[] hasThrown = new int[LEVELS];
        private final int[] kept = new int[LEVELS];
        private final int[] crowd = new int[PLACES];
        private final int[] order = new int[NODES];
        private final int[] waiting = new int[NODES];

        Tree() {
            clear();
        }

        void clear() {
            for (int item = 0; item < ITEMS; item++) {
                put(level, item, item < RECTANGLES ? RECTANGLE_LEVEL : FREE);
                put(above, item, NONE);
                put(size, item, 0);
            }
            thrownOut = 0;
            splits = 0;
            dissolved = 0;
            root = newNode(0);
        }

        void takeOver(Tree other) {
            if (other != null) {
                copy(other.box, box);
                copy(other.level, level);
                copy(other.above, above);
                copy(other.size, size);
                copy(other.entries, entries);
                root = other.root;
                thrownOut = other.thrownOut;
                splits = other.splits;
                dissolved = other.dissolved;
            }
        }

        // ---- boxes

        int corner(int item, int which) {
            return get(box, item * CORNERS + which);
        }

        void setBox(int item, int x1, int y1, int x2, int y2) {
            int first = item * CORNERS;
            put(box, first, x1);
            put(box, first + 1, y1);
            put(box, first + 2, x2);
            put(box, first + 3, y2);
        }

        void shiftBox(int item, int dx, int dy) {
            setBox(item, corner(item, 0) + dx, corner(item, 1) + dy, corner(item, 2) + dx, corner(item, 3) + dy);
        }

        private int area(int item) {
            int i = item * CORNERS;
            if (i < 0 || i > box.length - CORNERS) {
                return 0;
            }
            return (box[i + 2] - box[i] + 1) * (box[i + 3] - box[i + 1] + 1);
        }

        private int joinArea(int one, int other) {
            int i = one * CORNERS;
            int j = other * CORNERS;
            if (i < 0 || i > box.length - CORNERS || j < 0 || j > box.length - CORNERS) {
                return 0;
            }
            int width = Math.max(box[i + 2], box[j + 2]) - Math.min(box[i], box[j]) + 1;
            int height = Math.max(box[i + 3], box[j + 3]) - Math.min(box[i + 1], box[j + 1]) + 1;
            return width * height;
        }

        int commonCells(int one, int other) {
            int i = one * CORNERS;
            int j = other * CORNERS;
            if (i < 0 || i > box.length - CORNERS || j < 0 || j > box.length - CORNERS) {
                return 0;
            }
            int width = Math.min(box[i + 2], box[j + 2]) - Math.max(box[i], box[j]) + 1;
            int height = Math.min(box[i + 3], box[j + 3]) - Math.max(box[i + 1], box[j + 1]) + 1;
            return width > 0 && height > 0 ? width * height : 0;
        }

        /** Four times the square of the distance of the middles, which is a whole number. */
        private int middleDistance(int one, int other) {
            int i = one * CORNERS;
            int j = other * CORNERS;
            if (i < 0 || i > box.length - CORNERS || j < 0 || j > box.length - CORNERS) {
                return 0;
            }
            int dx = box[i] + box[i + 2] - box[j] - box[j + 2];
            int dy = box[i + 1] + box[i + 3] - box[j + 1] - box[j + 3];
            return dx * dx + dy * dy;
        }

        /** The square of the distance from a cell to the nearest cell of an item. */
        int distance(int item, int x, int y) {
            int dx = Math.max(0, Math.max(corner(item, 0) - x, x - corner(item, 2)));
            int dy = Math.max(0, Math.max(corner(item, 1) - y, y - corner(item, 3)));
            return dx * dx + dy * dy;
        }

        /** Makes the box of a node the join of its entries' boxes. */
        private void fit(int node) {
            int many = get(size, node);
            int x1 = SIDE;
            int y1 = SIDE;
            int x2 = NONE;
            int y2 = NONE;
            for (int k = 0; k < many; k++) {
                int i = get(entries, node * PLACES + k) * CORNERS;
                x1 = Math.min(x1, get(box, i));
                y1 = Math.min(y1, get(box, i + 1));
                x2 = Math.max(x2, get(box, i + 2));
                y2 = Math.max(y2, get(box, i + 3));
            }
            int first = node * CORNERS;
            put(box, first, x1);
            put(box, first + 1, y1);
            put(box, first + 2, x2);
            put(box, first + 3, y2);
        }

        private void fitUpward(int node) {
            int at = node;
            for (int step = 0; step < LEVELS && at != NONE; step++) {
                fit(at);
                at = get(above, at);
            }
        }

        // ---- nodes and entries

        int levelOf(int item) {
            return get(level, item);
        }

        int sizeOf(int node) {
            return get(size, node);
        }

        int nodeAbove(int item) {
            return get(above, item);
        }

        int entryOf(int node, int k) {
            return get(entries, node * PLACES + k);
        }

        private int newNode(int itsLevel) {
            for (int node = RECTANGLES; node < ASKED; node++) {
                if (get(level, node) == FREE) {
                    put(level, node, itsLevel);
                    put(above, node, NONE);
                    put(size, node, 0);
                    return node;
                }
            }
            return NONE;
        }

        private int placeOf(int node, int item) {
            int many = get(size, node);
            for (int k = 0; k < many; k++) {
                if (get(entries, node * PLACES + k) == item) {
                    return k;
                }
            }
            return many;
        }

        private void attach(int node, int place, int item) {
            int many = get(size, node);
            int first = node * PLACES;
            for (int k = many; k > place; k--) {
                put(entries, first + k, get(entries, first + k - 1));
            }
            put(entries, first + place, item);
            put(size, node, many + 1);
            put(above, item, node);
        }

        private void detach(int item) {
            int node = get(above, item);
            int many = get(size, node);
            int first = node * PLACES;
            for (int k = placeOf(node, item); k < many - 1; k++) {
                put(entries, first + k, get(entries, first + k + 1));
            }
            put(size, node, many - 1);
            put(above, item, NONE);
        }

        /** Writes the nodes into their order, the root first; returns how many there are. */
        int countNodes() {
            int many = 0;
            int waits = 1;
            put(waiting, 0, root);
            for (int step = 0; step < NODES && waits > 0; step++) {
                waits--;
                int node = get(waiting, waits);
                put(order, many, node);
                many++;
                if (get(level, node) > 0) {
                    for (int k = get(size, node) - 1; k >= 0; k--) {
                        put(waiting, waits, get(entries, node * PLACES + k));
                        waits++;
                    }
                }
            }
            return many;
        }

        int nodeNumbered(int n) {
            return n >= 0 && n < countNodes() ? get(order, n) : NONE;
        }

        int numberOf(int node) {
            int many = countNodes();
            for (int n = 0; n < many; n++) {
                if (get(order, n) == node) {
                    return n;
                }
            }
            return NONE;
        }

        // ---- rectangles

        boolean hasRectangle(int i) {
            return i >= 0 && i < RECTANGLES && get(above, i) != NONE;
        }

        int countRectangles() {
            int many = 0;
            for (int i = 0; i < RECTANGLES; i++) {
                if (get(above, i) != NONE) {
                    many++;
                }
            }
            return many;
        }

        int lowestFreeNumber() {
            for (int i = 0; i < RECTANGLES; i++) {
                if (get(above, i) == NONE) {
                    return i;
                }
            }
            return NONE;
        }

        boolean canShift(int i, int dx, int dy) {
            return isBox(corner(i, 0) + dx, corner(i, 1) + dy, corner(i, 2) + dx, corner(i, 3) + dy);
        }

        // ---- putting in

        void beginCall() {
            for (int i = 0; i < LEVELS; i++) {
                put(hasThrown, i, 0);
            }
        }

        /** Puts an item in at the level above its own, and what is thrown out for it as well. */
        void putIn(int item) {
            int next = item;
            // In a call each level throws out once at most, so that there are few rounds.
            for (int round = 0; round <= LEVELS && next != NONE; round++) {
                int at = reached(next, get(level, next) + 1);
                attach(at, get(size, at), next);
                fitUpward(at);
                next = NONE;
                for (int step = 0; step < LEVELS && get(size, at) > MOST_ENTRIES; step++) {
                    if (at != root && get(hasThrown, get(level, at)) == 0) {
                        next = throwOut(at);
                    } else {
                        at = split(at);
                    }
                    fitUpward(at);
                }
            }
        }

        /** The node of a level that an item comes to from the root on. */
        int reached(int item, int wanted) {
            int at = root;
            for (int step = 0; step < LEVELS && get(level, at) > wanted; step++) {
                at = branch(at, item);
            }
            return at;
        }

        private int branch(int node, int item) {
            int many = get(size, node);
            int best = get(entries, node * PLACES);
            for (int k = 1; k < many; k++) {
                int other = get(entries, node * PLACES + k);
                int more = joinArea(other, item) - area(other) - joinArea(best, item) + area(best);
                if (more < 0 || more == 0 && area(other) < area(best)) {
                    best = other;
                }
            }
            return best;
        }

        private int throwOut(int node) {
            int many = get(size, node);
            int farthest = get(entries, node * PLACES);
            for (int k = 1; k < many; k++) {
                int other = get(entries, node * PLACES + k);
                if (middleDistance(other, node) > middleDistance(farthest, node)) {
                    farthest = other;
                }
            }
            detach(farthest);
            put(hasThrown, get(level, node), 1);
            thrownOut++;
            return farthest;
        }

        /** Splits a node; returns the node above, which has both parts then. */
        private int split(int node) {
            for (int k = 0; k < PLACES; k++) {
                put(crowd, k, get(entries, node * PLACES + k));
            }
            int seeds = seedPair();
            int one = seeds / PLACES;
            int two = seeds % PLACES;
            int fresh = newNode(get(level, node));
            put(size, node, 0);
            join(node, get(crowd, one));
            join(fresh, get(crowd, two));
            int left = PLACES - 2;
            for (int k = 0; k < PLACES; k++) {
                if (k != one && k != two) {
                    join(groupFor(get(crowd, k), node, fresh, left), get(crowd, k));
                    left--;
                }
            }
            splits++;
            if (node == root) {
                root = newNode(get(level, node) + 1);
                attach(root, 0, node);
            }
            int up = get(above, node);
            attach(up, placeOf(up, node) + 1, fresh);
            return up;
        }

        private void join(int group, int item) {
            int many = get(size, group);
            put(entries, group * PLACES + many, item);
            put(size, group, many + 1);
            put(above, item, group);
            fit(group);
        }

        /** The places of the seeds in the crowd, as the first one times 5 plus the second one. */
        private int seedPair() {
            int best = 1;
            int most = 0;
            for (int one = 0; one < PLACES; one++) {
                for (int two = one + 1; two < PLACES; two++) {
                    int a = get(crowd, one);
                    int b = get(crowd, two);
                    int waste = joinArea(a, b) - area(a) - area(b);
                    if (one == 0 && two == 1 || waste > most) {
                        best = one * PLACES + two;
                        most = waste;
                    }
                }
            }
            return best;
        }

        private int groupFor(int item, int first, int second, int left) {
            if (get(size, first) + left <= LEAST_ENTRIES) {
                return first;
            }
            if (get(size, second) + left <= LEAST_ENTRIES) {
                return second;
            }
            int areaOfFirst = area(first);
            int areaOfSecond = area(second);
            int growthOfFirst = joinArea(first, item) - areaOfFirst;
            int growthOfSecond = joinArea(second, item) - areaOfSecond;
            if (growthOfFirst != growthOfSecond) {
                return growthOfFirst < growthOfSecond ? first : second;
            }
            if (areaOfFirst != areaOfSecond) {
                return areaOfFirst < areaOfSecond ? first : second;
            }
            return get(size, first) <= get(size, second) ? first : second;
        }

        // ---- taking out

        void takeOut(int i) {
            int node = get(above, i);
            detach(i);
            int apart = dissolveUpward(node);
            for (int step = 0; step < LEVELS && get(level, root) > 0 && get(size, root) == 1; step++) {
                int old = root;
                root = get(entries, old * PLACES);
                detach(root);
                put(level, old, FREE);
            }
            for (int k = 0; k < apart; k++) {
                putIn(get(kept, k));
            }
        }

        /** Takes out the nodes that have too few entries; returns how many entries are kept apart. */
        private int dissolveUpward(int node) {
            int apart = 0;
            int at = node;
            for (int step = 0; step < LEVELS && at != root && at != NONE; step++) {
                int up = get(above, at);
                if (get(size, at) < LEAST_ENTRIES) {
                    if (get(size, at) == 1) {
                        int last = get(entries, at * PLACES);
                        detach(last);
                        put(kept, apart, last);
                        apart++;
                    }
                    detach(at);
                    put(level, at, FREE);
                    dissolved++;
                } else {
                    fit(at);
                }
                at = up;
            }
            fit(root);
            return apart;
        }

        // ---- questions

        int overlap() {
            int cells = 0;
            int many = countNodes();
            for (int n = 0; n < many; n++) {
                int node = get(order, n);
                if (get(level, node) > 0) {
                    cells += overlapIn(node);
                }
            }
            return cells;
        }

        private int overlapIn(int node) {
            int cells = 0;
            int many = get(size, node);
            for (int one = 0; one < many; one++) {
                for (int two = one + 1; two < many; two++) {
                    cells += commonCells(get(entries, node * PLACES + one), get(entries, node * PLACES + two));
                }
            }
            return cells;
        }

        int areaBelowRoot() {
            int sum = 0;
            int many = countNodes();
            for (int n = 1; n < many; n++) {
                sum += area(get(order, n));
            }
            return sum;
        }

        int lookedAt(int asked) {
            int looks = 0;
            int waits = 1;
            put(waiting, 0, root);
            for (int step = 0; step < NODES && waits > 0; step++) {
                waits--;
                int node = get(waiting, waits);
                looks++;
                int many = get(level, node) > 0 ? get(size, node) : 0;
                for (int k = 0; k < many; k++) {
                    int below = get(entries, node * PLACES + k);
                    if (commonCells(below, asked) > 0) {
                        put(waiting, waits, below);
                        waits++;
                    }
                }
            }
            return looks;
        }

        /** The rectangle with k others before it, by distance from a cell, then by number. */
        int ranked(int x, int y, int k) {
            for (int i = 0; i < RECTANGLES; i++) {
                if (hasRectangle(i) && countNearer(i, x, y) == k) {
                    return i;
                }
            }
            return NONE;
        }

        private int countNearer(int i, int x, int y) {
            int own = distance(i, x, y);
            int nearer = 0;
            for (int j = 0; j < RECTANGLES; j++) {
                if (hasRectangle(j)) {
                    int other = distance(j, x, y);
                    if (other < own || other == own && j < i) {
                        nearer++;
                    }
                }
            }
            return nearer;
        }
    }
}
