/**
 * A grid of numbers whose corners have shapes that grow from cell to cell by one of four local
 * rules. The promises are numbered in ../shared/DOC.md. All arrays are made in the constructors
 * and used again, so that no call makes an object.
 */
public final class GrowthGrid {
    public static final int BAD = -1, NOT = -2, FULL = -3, STATE = -5, WIDE = -6;
    public static final long NO = Long.MIN_VALUE;

    private static final int NOTHING_THERE = -11, OTHER_KIND = -12, NO_PLACE = -13, BELOW_ZERO = -14;
    private static final int FAULT_BASE = -1000;

    private static final int MOST_SIDE = 5, MOST_NUMBER = 3, RULES = 4, KINDS = 4;
    private static final int STEEP = 1, SHEER = 3;
    private static final int PLACES = 100;
    private static final int MOST_CORNERS = (MOST_SIDE + 1) * (MOST_SIDE + 1);
    // A part above 0 adds to the size, and the size is at most that of all numbers together.
    private static final int MOST_PARTS = MOST_SIDE * MOST_SIDE * MOST_NUMBER;
    // 20 factorial is the last one that a long holds.
    private static final int MOST_STANDARD = 20;
    private static final int MOST_PRODUCT = 2147483647;
    private static final int MOST_DEEDS = 8;
    private static final int MOST_BYTES = 60, MOST_FED = 4;
    private static final int HOLDERS = 6, MOST_ROW = 30;
    private static final int HOLDS_NOTHING = 0, HOLDS_FLAT = 1, HOLDS_TALL = 2, HOLDS_ROW = 3;

    private final Cells cells;
    private final Cells spare;
    private final Cells kept;
    private boolean imageKept;
    private final Corners corners;
    private boolean grown;
    private final RowSearch rowSearch;
    private final Deeds deeds;
    private final Tape tape;
    private final Holder[] holders;

    public GrowthGrid() {
        cells = new Cells();
        spare = new Cells();
        kept = new Cells();
        imageKept = false;
        corners = new Corners();
        grown = false;
        rowSearch = new RowSearch();
        deeds = new Deeds();
        tape = new Tape();
        holders = new Holder[HOLDERS];
        for (int h = 0; h < HOLDERS; h++) {
            holders[h] = new Holder();
        }
    }

    // ---- the grid

    public int grid(int c, int r) {
        if (!isSide(c) || !isSide(r)) {
            return BAD;
        }
        int before = 10 * cells.columns + cells.rows;
        beginDeed();
        cells.clearTo(c, r);
        return before;
    }

    public int put(int x, int y, int v) {
        if (!cells.hasCell(x, y) || !isNumber(v)) {
            return BAD;
        }
        int before = cells.numberAt(x, y);
        beginDeed();
        cells.setNumber(x, y, v);
        return before;
    }

    public int cell(int x, int y) {
        return cells.hasCell(x, y) ? cells.numberAt(x, y) : BAD;
    }

    public int rule(int rule) {
        if (!isRule(rule)) {
            return BAD;
        }
        int before = cells.rule;
        beginDeed();
        cells.rule = rule;
        return before;
    }

    public int word(int w) {
        if (!cells.canSpell(w)) {
            return BAD;
        }
        beginDeed();
        cells.spell(w);
        return cells.filled();
    }

    public int spelled() {
        return cells.spelling();
    }

    public int turn(int how) {
        if (how < 0 || how > 2) {
            return BAD;
        }
        beginDeed();
        spare.copyFrom(cells);
        if (how == 0) {
            cells.clearTo(spare.rows, spare.columns);
        }
        for (int x = 1; x <= spare.columns; x++) {
            for (int y = 1; y <= spare.rows; y++) {
                int v = spare.numberAt(x, y);
                if (how == 0) {
                    cells.setNumber(y, x, v);
                } else if (how == 1) {
                    cells.setNumber(spare.columns + 1 - x, y, v);
                } else {
                    cells.setNumber(x, spare.rows + 1 - y, v);
                }
            }
        }
        return cells.filled();
    }

    // ---- shapes

    public int part(int x, int y, int i) {
        if (!cells.hasCorner(x, y) || !isPlace(i)) {
            return BAD;
        }
        return shapeAt(x, y).partAt(i);
    }

    public int shape(int x, int y, int what) {
        if (!cells.hasCorner(x, y) || what < 0 || what > 1) {
            return BAD;
        }
        Shape s = shapeAt(x, y);
        return what == 0 ? s.size : s.length;
    }

    public int turned(int x, int y, int j) {
        if (!cells.hasCorner(x, y) || !isPlace(j)) {
            return BAD;
        }
        return shapeAt(x, y).partsAbove(j);
    }

    public long standard(int x, int y) {
        if (!cells.hasCorner(x, y)) {
            return NO;
        }
        Shape s = shapeAt(x, y);
        return s.size > MOST_STANDARD ? NO : s.standardFillings();
    }

    public int product(int x, int y) {
        if (!cells.hasCorner(x, y)) {
            return BAD;
        }
        return shapeAt(x, y).productOrWide();
    }

    public int filling(int which, int i, int j) {
        if (which < 0 || which > 1 || !isPlace(i) || !isPlace(j)) {
            return BAD;
        }
        int steps = which == 0 ? cells.rows : cells.columns;
        for (int k = 0; k <= steps; k++) {
            Shape s = which == 0 ? shapeAt(cells.columns, k) : shapeAt(k, cells.rows);
            if (s.partAt(i) > j) {
                return k;
            }
        }
        return NOT;
    }

    public int along(int path, int k) {
        int steps = cells.columns + cells.rows;
        boolean beyond = path < 0 || path >> steps != 0;
        if (beyond || Integer.bitCount(path) != cells.rows || k < 0 || k > steps) {
            return BAD;
        }
        int down = Integer.bitCount(path & ((1 << k) - 1));
        return shapeAt(k - down, cells.rows - down).size;
    }

    public int fits(int rule) {
        if (!isRule(rule)) {
            return BAD;
        }
        return grownCorners().rimFits(rule) ? 1 : 0;
    }

    public int back(int rule) {
        if (!isRule(rule)) {
            return BAD;
        }
        if (!grownCorners().rimFits(rule)) {
            return STATE;
        }
        // Going back writes over the shapes inside the rim, also if it is refused in the end.
        grown = false;
        spare.copyFrom(cells);
        spare.rule = rule;
        if (corners.goBackInto(spare) > MOST_NUMBER) {
            return STATE;
        }
        int changed = cells.differing(spare);
        beginDeed();
        cells.copyFrom(spare);
        return changed;
    }

    // ---- rows of cells, corners in order

    public int longest(int kind, int what) {
        if (kind < 0 || kind >= KINDS || what < 0 || what > 1) {
            return BAD;
        }
        return rowSearch.bestRow(cells, kind, what == 1);
    }

    public int union(int k, int kind) {
        if (k < 1 || k > MOST_SIDE || (kind != STEEP && kind != SHEER)) {
            return BAD;
        }
        if (!cells.isMarked()) {
            return STATE;
        }
        // By Greene's theorem the first k parts tell the union of k steep rows, those of the
        // turned shape that of k sheer ones; in a marked grid all four rules grow this shape.
        Shape whole = shapeAt(cells.columns, cells.rows);
        int together = 0;
        for (int i = 0; i < k; i++) {
            together += kind == STEEP ? whole.partAt(i) : whole.partsAbove(i);
        }
        return together;
    }

    public int corner(int k) {
        return k < 0 ? BAD : grownCorners().cornerByOrder(k);
    }

    public int unlike(int what) {
        if (what < 0 || what > 1) {
            return BAD;
        }
        return what == 0 ? grownCorners().unlikeShapes() : grownCorners().mostAlike();
    }

    // ---- deeds, texts

    public int undo() {
        if (deeds.undoable() == 0) {
            return STATE;
        }
        deeds.stepBack(cells);
        grown = false;
        return deeds.undoable();
    }

    public int again() {
        if (deeds.redoable() == 0) {
            return STATE;
        }
        deeds.stepOn(cells);
        grown = false;
        return deeds.redoable();
    }

    public int feed(int v, int n) {
        if (n < 1 || n > MOST_FED) {
            return BAD;
        }
        if (tape.length + n > MOST_BYTES) {
            return FULL;
        }
        for (int i = n - 1; i >= 0; i--) {
            tape.append((v >>> (8 * i)) & 255);
        }
        return tape.length;
    }

    public int wipe() {
        int had = tape.length;
        tape.length = 0;
        return had;
    }

    public int read() {
        int fault = tape.faultPlace();
        if (fault < 0) {
            beginDeed();
            tape.writeInto(cells);
        }
        tape.length = 0;
        return fault < 0 ? cells.filled() : FAULT_BASE - fault;
    }

    // ---- holders, the image

    public int hold(int h, int x, int y) {
        if (!isHolder(h) || !cells.hasCorner(x, y)) {
            return BAD;
        }
        Shape s = shapeAt(x, y);
        holders[h].keepShape(s);
        return s.size;
    }

    public int drop(int h) {
        if (!isHolder(h)) {
            return BAD;
        }
        int held = holders[h].holds;
        holders[h].holds = HOLDS_NOTHING;
        return held;
    }

    public int taken(int h, int kind) {
        if (!isHolder(h) || kind < 0 || kind > 2) {
            return BAD;
        }
        Holder held = holders[h];
        if (!held.hasShape()) {
            return held.refusal();
        }
        if (kind == 0) {
            return held.shape.size;
        }
        // The kinds have the numbers of what a holder holds: 1 a flat shape, 2 a tall one.
        if (held.holds != kind) {
            return OTHER_KIND;
        }
        return kind == HOLDS_FLAT ? held.shape.partAt(0) : held.shape.length;
    }

    public int was(int h, int i) {
        if (!isHolder(h) || !isPlace(i)) {
            return BAD;
        }
        Holder held = holders[h];
        return held.hasShape() ? held.shape.partAt(i) : held.refusal();
    }

    public int row(int h, int n) {
        if (!isHolder(h) || n > MOST_ROW) {
            return BAD;
        }
        if (n < 0) {
            return BELOW_ZERO;
        }
        holders[h].beginRow(n);
        return n;
    }

    public int set(int h, int i, int v) {
        if (!isHolder(h)) {
            return BAD;
        }
        Holder held = holders[h];
        if (!held.hasRow()) {
            return held.refusal();
        }
        if (!held.hasPlace(i)) {
            return NO_PLACE;
        }
        held.numbers[i] = v;
        return 1;
    }

    public long get(int h, int i) {
        if (!isHolder(h) || !holders[h].hasRow() || !holders[h].hasPlace(i)) {
            return NO;
        }
        return holders[h].numbers[i];
    }

    public int judge(int h, int x, int y) {
        if (!isHolder(h) || !cells.hasCorner(x, y)) {
            return BAD;
        }
        Holder held = holders[h];
        return held.hasRow() ? held.firstOtherwise(shapeAt(x, y)) : held.refusal();
    }

    public int image() {
        kept.copyFrom(cells);
        imageKept = true;
        return kept.filled();
    }

    public int restore() {
        if (!imageKept) {
            return STATE;
        }
        cells.copyFrom(kept);
        grown = false;
        deeds.forgetAll();
        return cells.filled();
    }

    public int count(int what) {
        switch (what) {
            case 0: return cells.columns;
            case 1: return cells.rows;
            case 2: return cells.rule;
            case 3: return deeds.undoable();
            case 4: return deeds.redoable();
            case 5: return tape.length;
            case 6: return cells.total();
            default: return BAD;
        }
    }

    // ---- what the calls have in common

    private static boolean isSide(int n) {
        return n >= 1 && n <= MOST_SIDE;
    }

    private static boolean isNumber(int v) {
        return v >= 0 && v <= MOST_NUMBER;
    }

    private static boolean isRule(int n) {
        return n >= 0 && n < RULES;
    }

    private static boolean isPlace(int i) {
        return i >= 0 && i < PLACES;
    }

    private static boolean isHolder(int h) {
        return h >= 0 && h < HOLDERS;
    }

    /** To be called when nothing can refuse the deed any more, and ahead of its changes. */
    private void beginDeed() {
        deeds.remember(cells);
        grown = false;
    }

    private Corners grownCorners() {
        if (!grown) {
            corners.growOver(cells);
            grown = true;
        }
        return corners;
    }

    private Shape shapeAt(int x, int y) {
        return grownCorners().at(x, y);
    }

    /** C, R, RULE and the NUMBERS: what deeds change and the image keeps. */
    private static final class Cells {
        int columns;
        int rows;
        int rule;
        private final int[] numbers;

        Cells() {
            columns = 3;
            rows = 3;
            rule = 0;
            numbers = new int[MOST_SIDE * MOST_SIDE];
        }

        boolean hasCell(int x, int y) {
            return x >= 1 && x <= columns && y >= 1 && y <= rows;
        }

        boolean hasCorner(int x, int y) {
            return x >= 0 && x <= columns && y >= 0 && y <= rows;
        }

        int numberAt(int x, int y) {
            return hasCell(x, y) ? numbers[placeOf(x, y)] : 0;
        }

        void setNumber(int x, int y, int v) {
            if (hasCell(x, y)) {
                numbers[placeOf(x, y)] = v;
            }
        }

        private static int placeOf(int x, int y) {
            return (x - 1) * MOST_SIDE + (y - 1);
        }

        int worthAt(int x, int y) {
            int v = numberAt(x, y);
            return rule == 1 || rule == 2 ? Math.min(v, 1) : v;
        }

        void clearTo(int c, int r) {
            columns = c;
            rows = r;
            for (int k = 0; k < numbers.length; k++) {
                numbers[k] = 0;
            }
        }

        void copyFrom(Cells other) {
            columns = other.columns;
            rows = other.rows;
            rule = other.rule;
            for (int k = 0; k < numbers.length; k++) {
                numbers[k] = other.numbers[k];
            }
        }

        // The sums below go over all places: those outside the grid hold 0.

        int filled() {
            int n = 0;
            for (int k = 0; k < numbers.length; k++) {
                n += numbers[k] > 0 ? 1 : 0;
            }
            return n;
        }

        int total() {
            int n = 0;
            for (int k = 0; k < numbers.length; k++) {
                n += numbers[k];
            }
            return n;
        }

        int differing(Cells other) {
            int n = 0;
            for (int k = 0; k < numbers.length; k++) {
                n += numbers[k] != other.numbers[k] ? 1 : 0;
            }
            return n;
        }

        boolean canSpell(int w) {
            if (w < 0) {
                return false;
            }
            int rest = w;
            for (int x = columns; x >= 1; x--) {
                if (rest % 10 > rows) {
                    return false;
                }
                rest /= 10;
            }
            return rest == 0;
        }

        void spell(int w) {
            clearTo(columns, rows);
            int rest = w;
            for (int x = columns; x >= 1; x--) {
                // Digit 0 is no row, so that it sets nothing.
                setNumber(x, rest % 10, 1);
                rest /= 10;
            }
        }

        int spelling() {
            int w = 0;
            for (int x = 1; x <= columns; x++) {
                int digit = 0;
                for (int y = 1; y <= rows; y++) {
                    int v = numberAt(x, y);
                    if (v > 1 || (v == 1 && digit > 0)) {
                        return NOT;
                    }
                    if (v == 1) {
                        digit = y;
                    }
                }
                w = 10 * w + digit;
            }
            return w;
        }

        /** Whether it is spelled, so that its columns are right, and its rows are, too. */
        boolean isMarked() {
            if (spelling() == NOT) {
                return false;
            }
            for (int y = 1; y <= rows; y++) {
                int ones = 0;
                for (int x = 1; x <= columns; x++) {
                    ones += numberAt(x, y);
                }
                if (ones > 1) {
                    return false;
                }
            }
            return true;
        }
    }

    /** A row of parts, none greater than the one ahead of it; those from length on are 0. */
    private static final class Shape {
        private final int[] parts;
        int length;
        int size;

        Shape() {
            parts = new int[MOST_PARTS];
            length = 0;
            size = 0;
        }

        int partAt(int i) {
            return i >= 0 && i < length ? parts[i] : 0;
        }

        /** Part j of the turned shape. */
        int partsAbove(int j) {
            int n = 0;
            for (int i = 0; i < length; i++) {
                n += parts[i] > j ? 1 : 0;
            }
            return n;
        }

        void makeEmpty() {
            length = 0;
            size = 0;
        }

        void copyFrom(Shape other) {
            length = other.length;
            size = other.size;
            for (int i = 0; i < length; i++) {
                parts[i] = other.parts[i];
            }
        }

        /** This becomes NEW. */
        void growFrom(Shape old, Shape left, Shape low, int worth, int rule) {
            makeEmpty();
            int c = worth;
            for (int i = 0; i < MOST_PARTS; i++) {
                int o = old.partAt(i);
                int a = left.partAt(i);
                int b = low.partAt(i);
                int n = grownPart(rule, o, a, b, c);
                if (n <= 0) {
                    break;
                }
                parts[i] = n;
                length = i + 1;
                size += n;
                // By each rule the greater and the lesser of two are parted between N and c.
                c += a + b - o - n;
            }
        }

        private static int grownPart(int rule, int o, int a, int b, int c) {
            switch (rule) {
                case 0: return Math.max(a, b) + c;
                case 1: return Math.max(a + c, b);
                case 2: return Math.max(a, b + c);
                default: return Math.max(a, b) + Math.min(c, o == a && a == b ? 1 : 0);
            }
        }

        /** This becomes OLD; the answer is the number of the cell. */
        int goBackFrom(Shape young, Shape left, Shape low, int rule) {
            length = young.length;
            size = 0;
            int c = 0;
            for (int i = young.length - 1; i >= 0; i--) {
                int n = young.partAt(i);
                int a = left.partAt(i);
                int b = low.partAt(i);
                int o = formerPart(rule, n, a, b, c);
                parts[i] = o;
                size += o;
                if (o == 0 && length == i + 1) {
                    length = i;
                }
                // The same balance as in growFrom, told backwards.
                c += n + o - a - b;
            }
            return c;
        }

        private static int formerPart(int rule, int n, int a, int b, int c) {
            switch (rule) {
                case 0: return Math.min(a, b) - c;
                case 1: return Math.min(a, b - c);
                case 2: return Math.min(a - c, b);
                default: return Math.min(a, b) - Math.min(c, n == a && a == b ? 1 : 0);
            }
        }

        boolean goesOnFrom(Shape ahead, boolean upright) {
            return upright ? goesOnUpright(ahead) : goesOnLevel(ahead);
        }

        private boolean goesOnLevel(Shape ahead) {
            int end = Math.max(length, ahead.length);
            for (int i = 0; i < end; i++) {
                int a = ahead.partAt(i);
                if (partAt(i) < a || a < partAt(i + 1)) {
                    return false;
                }
            }
            return true;
        }

        private boolean goesOnUpright(Shape ahead) {
            int end = Math.max(length, ahead.length);
            for (int i = 0; i < end; i++) {
                int more = partAt(i) - ahead.partAt(i);
                if (more < 0 || more > 1) {
                    return false;
                }
            }
            return true;
        }

        /** For a size of 20 at most. */
        long standardFillings() {
            long ways = 1;
            for (int n = 2; n <= size; n++) {
                ways *= n;
            }
            long hooks = 1;
            for (int i = 0; i < length; i++) {
                for (int j = 0; j < parts[i]; j++) {
                    hooks *= parts[i] - j + partsAbove(j) - i - 1;
                }
            }
            return hooks > 0 ? ways / hooks : NO;
        }

        int productOrWide() {
            long all = 1;
            for (int i = 0; i < length; i++) {
                all *= parts[i] + 1;
                if (all > MOST_PRODUCT) {
                    return WIDE;
                }
            }
            return (int) all;
        }

        /** Below 0: this stands ahead of the other in the order of corners; 0: it is like it. */
        int orderTo(Shape other) {
            if (size != other.size) {
                return other.size - size;
            }
            int end = Math.max(length, other.length);
            for (int i = 0; i < end; i++) {
                if (partAt(i) != other.partAt(i)) {
                    return other.partAt(i) - partAt(i);
                }
            }
            return 0;
        }
    }

    /** The shapes at the corners of a grid. */
    private static final class Corners {
        private final Shape[] shapes;
        private final Shape empty;
        private int columns;
        private int rows;
        // 10 times x, plus y.
        private final int[] order;
        private int ordered;

        Corners() {
            shapes = new Shape[MOST_CORNERS];
            for (int k = 0; k < MOST_CORNERS; k++) {
                shapes[k] = new Shape();
            }
            empty = new Shape();
            columns = 0;
            rows = 0;
            order = new int[MOST_CORNERS];
            ordered = 0;
        }

        Shape at(int x, int y) {
            if (x < 0 || x > MOST_SIDE || y < 0 || y > MOST_SIDE) {
                return empty;
            }
            return shapes[x * (MOST_SIDE + 1) + y];
        }

        void growOver(Cells cells) {
            columns = cells.columns;
            rows = cells.rows;
            ordered = 0;
            for (int x = 0; x <= columns; x++) {
                for (int y = 0; y <= rows; y++) {
                    if (x == 0 || y == 0) {
                        at(x, y).makeEmpty();
                    } else {
                        at(x, y).growFrom(at(x - 1, y - 1), at(x - 1, y), at(x, y - 1),
                                cells.worthAt(x, y), cells.rule);
                    }
                }
            }
        }

        /** Writes over the shapes inside the rim; the answer is the greatest number found. */
        int goBackInto(Cells found) {
            int greatest = 0;
            for (int x = columns; x >= 1; x--) {
                for (int y = rows; y >= 1; y--) {
                    int m = at(x - 1, y - 1).goBackFrom(at(x, y), at(x - 1, y), at(x, y - 1), found.rule);
                    found.setNumber(x, y, m);
                    greatest = Math.max(greatest, m);
                }
            }
            return greatest;
        }

        boolean rimFits(int rule) {
            boolean topUpright = rule == 1 || rule == 3;
            boolean rightUpright = rule == 2 || rule == 3;
            for (int x = 1; x <= columns; x++) {
                if (!at(x, rows).goesOnFrom(at(x - 1, rows), topUpright)) {
                    return false;
                }
            }
            for (int y = 1; y <= rows; y++) {
                if (!at(columns, y).goesOnFrom(at(columns, y - 1), rightUpright)) {
                    return false;
                }
            }
            return true;
        }

        int cornerByOrder(int k) {
            putInOrder();
            return k >= 0 && k < ordered ? order[k] : NOT;
        }

        int unlikeShapes() {
            putInOrder();
            int kinds = 0;
            for (int k = 0; k < ordered; k++) {
                kinds += k == 0 || !isLikeTheOneAhead(k) ? 1 : 0;
            }
            return kinds;
        }

        int mostAlike() {
            putInOrder();
            int most = 0;
            int alike = 0;
            for (int k = 0; k < ordered; k++) {
                alike = k > 0 && isLikeTheOneAhead(k) ? alike + 1 : 1;
                most = Math.max(most, alike);
            }
            return most;
        }

        private boolean isLikeTheOneAhead(int k) {
            return k > 0 && k < ordered && shapeOf(order[k]).orderTo(shapeOf(order[k - 1])) == 0;
        }

        private Shape shapeOf(int code) {
            return at(code / 10, code % 10);
        }

        private void putInOrder() {
            if (ordered > 0) {
                return;
            }
            for (int x = 0; x <= columns; x++) {
                for (int y = 0; y <= rows; y++) {
                    insert(10 * x + y);
                }
            }
        }

        /** Behind all that are like it: they came first, with the lesser x or y. */
        private void insert(int code) {
            if (ordered >= MOST_CORNERS) {
                return;
            }
            int k = ordered;
            while (k > 0 && shapeOf(code).orderTo(shapeOf(order[k - 1])) < 0) {
                order[k] = order[k - 1];
                k--;
            }
            order[k] = code;
            ordered++;
        }
    }

    /** Looks for the best row of cells, rising or falling. */
    private static final class RowSearch {
        // best[x][y] is that within columns 1 .. x, rows 1 .. y; those at x 0 or y 0 stay 0.
        private final int[][] best;

        RowSearch() {
            best = new int[MOST_SIDE + 1][MOST_SIDE + 1];
        }

        int bestRow(Cells cells, int kind, boolean counted) {
            boolean strict = kind == STEEP || kind == SHEER;
            boolean falling = kind >= 2;
            for (int x = 1; x <= cells.columns; x++) {
                for (int y = 1; y <= cells.rows; y++) {
                    // Seen from the other side a falling row is a rising one.
                    int v = cells.numberAt(x, falling ? cells.rows + 1 - y : y);
                    int gain = counted ? Math.min(v, 1) : v;
                    int without = Math.max(best[x - 1][y], best[x][y - 1]);
                    best[x][y] = strict ? Math.max(without, best[x - 1][y - 1] + gain) : without + gain;
                }
            }
            return best[cells.columns][cells.rows];
        }
    }

    /** What was ahead of the deeds: up to position they can be undone, beyond it done again. */
    private static final class Deeds {
        private final Cells[] states;
        private int position;
        private int end;

        Deeds() {
            states = new Cells[MOST_DEEDS + 1];
            for (int k = 0; k <= MOST_DEEDS; k++) {
                states[k] = new Cells();
            }
            position = 0;
            end = 0;
        }

        int undoable() {
            return position;
        }

        int redoable() {
            return end - position;
        }

        void forgetAll() {
            position = 0;
            end = 0;
        }

        void remember(Cells now) {
            if (position >= MOST_DEEDS) {
                forgetOldest();
            }
            states[position].copyFrom(now);
            position++;
            end = position;
        }

        private void forgetOldest() {
            Cells oldest = states[0];
            for (int k = 0; k < MOST_DEEDS; k++) {
                states[k] = states[k + 1];
            }
            states[MOST_DEEDS] = oldest;
            position = MOST_DEEDS - 1;
        }

        void stepBack(Cells now) {
            if (position > 0) {
                states[position].copyFrom(now);
                position--;
                now.copyFrom(states[position]);
            }
        }

        void stepOn(Cells now) {
            if (position < end) {
                position++;
                now.copyFrom(states[position]);
            }
        }
    }

    /** Bytes that may be the text of a grid. */
    private static final class Tape {
        private final int[] bytes;
        int length;

        Tape() {
            bytes = new int[MOST_BYTES];
            length = 0;
        }

        void append(int b) {
            if (length < MOST_BYTES) {
                bytes[length] = b;
                length++;
            }
        }

        private int byteAt(int p) {
            return p >= 0 && p < length ? bytes[p] : -1;
        }

        private boolean hasFigure(int p, char least, char greatest) {
            return byteAt(p) >= least && byteAt(p) <= greatest;
        }

        private int figureAt(int p) {
            return byteAt(p) - '0';
        }

        /** The place of the fault; -1: there is none. */
        int faultPlace() {
            for (int p = 0; p < 2; p++) {
                if (!hasFigure(p, '1', '5')) {
                    return p;
                }
            }
            int stride = figureAt(0) + 1;
            int whole = 2 + figureAt(1) * stride;
            // Where the tape ends too early, the first place that is not there is its length.
            int left = 0;
            for (int p = 2; p < whole; p++) {
                boolean right = left == 0 ? byteAt(p) == ';' : hasFigure(p, '0', '3');
                if (!right) {
                    return p;
                }
                left = left == 0 ? stride - 1 : left - 1;
            }
            return length > whole ? whole : -1;
        }

        /** For a tape without a fault. */
        void writeInto(Cells cells) {
            cells.clearTo(figureAt(0), figureAt(1));
            int p = 2;
            for (int y = cells.rows; y >= 1; y--) {
                p++;
                for (int x = 1; x <= cells.columns; x++) {
                    cells.setNumber(x, y, figureAt(p));
                    p++;
                }
            }
        }
    }

    /** Holds nothing, a shape or a row of ints. */
    private static final class Holder {
        int holds;
        final Shape shape;
        final int[] numbers;
        private int rowLength;

        Holder() {
            holds = HOLDS_NOTHING;
            shape = new Shape();
            numbers = new int[MOST_ROW];
            rowLength = 0;
        }

        boolean hasShape() {
            return holds == HOLDS_FLAT || holds == HOLDS_TALL;
        }

        boolean hasRow() {
            return holds == HOLDS_ROW;
        }

        boolean hasPlace(int i) {
            return i >= 0 && i < rowLength;
        }

        /** What is answered where something else is wanted than what is held. */
        int refusal() {
            return holds == HOLDS_NOTHING ? NOTHING_THERE : OTHER_KIND;
        }

        void keepShape(Shape s) {
            shape.copyFrom(s);
            holds = s.length <= 1 ? HOLDS_FLAT : HOLDS_TALL;
        }

        void beginRow(int n) {
            holds = HOLDS_ROW;
            rowLength = n;
            for (int i = 0; i < MOST_ROW; i++) {
                numbers[i] = 0;
            }
        }

        int firstOtherwise(Shape s) {
            int end = Math.max(rowLength, s.length);
            for (int i = 0; i < end; i++) {
                int told = hasPlace(i) ? numbers[i] : 0;
                if (told != s.partAt(i)) {
                    return i;
                }
            }
            return NOT;
        }
    }
}
