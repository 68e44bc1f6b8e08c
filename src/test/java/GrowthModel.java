import java.util.ArrayDeque;
import java.util.ArrayList;
import java.util.Arrays;
import java.util.Comparator;
import java.util.Deque;
import java.util.HashMap;
import java.util.List;
import java.util.Map;

/**
 * The document told once more, word by word and without a thought for speed: what ModelTest holds
 * the class against. It shares no code with the class and looks for rows and unions by trying all.
 */
final class GrowthModel {
    static final int BAD = -1, NOT = -2, FULL = -3, STATE = -5, WIDE = -6;
    static final long NO = Long.MIN_VALUE;
    private static final int PARTS = 110;

    private record Grid(int columns, int rows, int rule, Map<Integer, Integer> numbers) {
        int number(int x, int y) {
            return numbers.getOrDefault(10 * x + y, 0);
        }

        Grid with(int x, int y, int v) {
            Map<Integer, Integer> m = new HashMap<>(numbers);
            m.remove(10 * x + y);
            if (v != 0) {
                m.put(10 * x + y, v);
            }
            return new Grid(columns, rows, rule, m);
        }

        Grid cleared(int c, int r) {
            return new Grid(c, r, rule, Map.of());
        }

        int worth(int x, int y) {
            return rule == 1 || rule == 2 ? Math.min(1, number(x, y)) : number(x, y);
        }
    }

    private Grid now = new Grid(3, 3, 0, Map.of());
    private Grid image = null;
    private final Deque<Grid> undone = new ArrayDeque<>();
    private final Deque<Grid> doable = new ArrayDeque<>();
    private final List<Integer> tape = new ArrayList<>();
    private final int[][] heldShape = new int[6][];
    private final int[][] heldRow = new int[6][];

    // ---- deeds

    private void deed(Grid next) {
        doable.push(now);
        if (doable.size() > 8) {
            doable.removeLast();
        }
        undone.clear();
        now = next;
    }

    int undo() {
        if (doable.isEmpty()) {
            return STATE;
        }
        undone.push(now);
        now = doable.pop();
        return doable.size();
    }

    int again() {
        if (undone.isEmpty()) {
            return STATE;
        }
        doable.push(now);
        now = undone.pop();
        return undone.size();
    }

    // ---- the grid

    int grid(int c, int r) {
        if (c < 1 || c > 5 || r < 1 || r > 5) {
            return BAD;
        }
        int was = 10 * now.columns + now.rows;
        deed(now.cleared(c, r));
        return was;
    }

    private boolean isCell(int x, int y) {
        return 1 <= x && x <= now.columns && 1 <= y && y <= now.rows;
    }

    private boolean isCorner(int x, int y) {
        return 0 <= x && x <= now.columns && 0 <= y && y <= now.rows;
    }

    int put(int x, int y, int v) {
        if (!isCell(x, y) || v < 0 || v > 3) {
            return BAD;
        }
        int was = now.number(x, y);
        deed(now.with(x, y, v));
        return was;
    }

    int cell(int x, int y) {
        return isCell(x, y) ? now.number(x, y) : BAD;
    }

    int rule(int rule) {
        if (rule < 0 || rule > 3) {
            return BAD;
        }
        int was = now.rule;
        deed(new Grid(now.columns, now.rows, rule, now.numbers));
        return was;
    }

    int word(int w) {
        StringBuilder digits = new StringBuilder(Integer.toString(w));
        if (w < 0 || digits.length() > now.columns) {
            return BAD;
        }
        while (digits.length() < now.columns) {
            digits.insert(0, '0');
        }
        Grid next = now.cleared(now.columns, now.rows);
        for (int x = 1; x <= now.columns; x++) {
            int d = digits.charAt(x - 1) - '0';
            if (d > now.rows) {
                return BAD;
            }
            if (d > 0) {
                next = next.with(x, d, 1);
            }
        }
        deed(next);
        return now.numbers.size();
    }

    int spelled() {
        StringBuilder digits = new StringBuilder();
        for (int x = 1; x <= now.columns; x++) {
            int found = 0, digit = 0;
            for (int y = 1; y <= now.rows; y++) {
                if (now.number(x, y) > 1) {
                    return NOT;
                }
                if (now.number(x, y) == 1) {
                    found++;
                    digit = y;
                }
            }
            if (found > 1) {
                return NOT;
            }
            digits.append(digit);
        }
        return Integer.parseInt(digits.toString());
    }

    int turn(int how) {
        if (how < 0 || how > 2) {
            return BAD;
        }
        Grid next = how == 0 ? now.cleared(now.rows, now.columns) : now.cleared(now.columns, now.rows);
        for (int x = 1; x <= now.columns; x++) {
            for (int y = 1; y <= now.rows; y++) {
                int v = now.number(x, y);
                next = how == 0 ? next.with(y, x, v)
                        : how == 1 ? next.with(now.columns + 1 - x, y, v) : next.with(x, now.rows + 1 - y, v);
            }
        }
        deed(next);
        return now.numbers.size();
    }

    // ---- shapes

    private int[][][] shapes() {
        int[][][] s = new int[now.columns + 1][now.rows + 1][PARTS];
        for (int x = 1; x <= now.columns; x++) {
            for (int y = 1; y <= now.rows; y++) {
                s[x][y] = grow(now.rule, s[x - 1][y - 1], s[x - 1][y], s[x][y - 1], now.worth(x, y));
            }
        }
        return s;
    }

    private static int[] grow(int rule, int[] old, int[] left, int[] low, int worth) {
        int[] made = new int[PARTS];
        int c = worth;
        int i = 0;
        do {
            int o = old[i], a = left[i], b = low[i];
            if (rule == 0) {
                made[i] = Math.max(a, b) + c;
                c = Math.min(a, b) - o;
            } else if (rule == 1) {
                made[i] = Math.max(a + c, b);
                c = Math.min(a + c, b) - o;
            } else if (rule == 2) {
                made[i] = Math.max(b + c, a);
                c = Math.min(b + c, a) - o;
            } else {
                int e = o == a && o == b ? 1 : 0;
                int d = Math.min(c, e);
                made[i] = Math.max(a, b) + d;
                c = c - d + Math.min(a, b) - o;
            }
            i++;
        } while (made[i - 1] != 0);
        return made;
    }

    private static int size(int[] s) {
        return Arrays.stream(s).sum();
    }

    private static int length(int[] s) {
        return (int) Arrays.stream(s).filter(v -> v > 0).count();
    }

    private static int[] turnedOf(int[] s) {
        int[] t = new int[PARTS];
        for (int j = 0; j < PARTS; j++) {
            int above = j;
            t[j] = (int) Arrays.stream(s).filter(v -> v > above).count();
        }
        return t;
    }

    int part(int x, int y, int i) {
        return isCorner(x, y) && i >= 0 && i <= 99 ? shapes()[x][y][i] : BAD;
    }

    int shape(int x, int y, int what) {
        if (!isCorner(x, y) || (what != 0 && what != 1)) {
            return BAD;
        }
        return what == 0 ? size(shapes()[x][y]) : length(shapes()[x][y]);
    }

    int turned(int x, int y, int j) {
        return isCorner(x, y) && j >= 0 && j <= 99 ? turnedOf(shapes()[x][y])[j] : BAD;
    }

    /** Counted one by one, through the places that the greatest number can have. */
    private static long fillings(List<Integer> shape, Map<List<Integer>, Long> known) {
        if (shape.isEmpty()) {
            return 1;
        }
        Long before = known.get(shape);
        if (before != null) {
            return before;
        }
        long ways = 0;
        for (int i = 0; i < shape.size(); i++) {
            int next = i + 1 < shape.size() ? shape.get(i + 1) : 0;
            if (shape.get(i) > next) {
                List<Integer> less = new ArrayList<>(shape);
                less.set(i, less.get(i) - 1);
                less.removeIf(v -> v == 0);
                ways += fillings(less, known);
            }
        }
        known.put(shape, ways);
        return ways;
    }

    long standard(int x, int y) {
        if (!isCorner(x, y) || size(shapes()[x][y]) > 20) {
            return NO;
        }
        List<Integer> parts = new ArrayList<>();
        Arrays.stream(shapes()[x][y]).filter(v -> v > 0).forEach(parts::add);
        return fillings(parts, new HashMap<>());
    }

    int product(int x, int y) {
        if (!isCorner(x, y)) {
            return BAD;
        }
        java.math.BigInteger all = java.math.BigInteger.ONE;
        for (int p : shapes()[x][y]) {
            all = all.multiply(java.math.BigInteger.valueOf(p + 1L));
        }
        return all.bitLength() > 31 ? WIDE : all.intValueExact();
    }

    int filling(int which, int i, int j) {
        if (which < 0 || which > 1 || i < 0 || i > 99 || j < 0 || j > 99) {
            return BAD;
        }
        int[][][] s = shapes();
        if (s[now.columns][now.rows][i] <= j) {
            return NOT;
        }
        int k = 0;
        while ((which == 0 ? s[now.columns][k] : s[k][now.rows])[i] <= j) {
            k++;
        }
        return k;
    }

    int along(int path, int k) {
        int x = 0, y = now.rows, atX = -1, atY = -1;
        for (int step = 0; step <= now.columns + now.rows; step++) {
            if (step == k) {
                atX = x;
                atY = y;
            }
            if (step == now.columns + now.rows) {
                break;
            }
            if (((path >>> step) & 1) == 0) {
                x++;
            } else {
                y--;
            }
        }
        boolean isPath = path >= 0 && path < Math.pow(2, now.columns + now.rows) && x == now.columns && y == 0;
        return isPath && atX >= 0 ? size(shapes()[atX][atY]) : BAD;
    }

    private static boolean goesOn(int[] b, int[] a, boolean upright) {
        for (int i = 0; i + 1 < PARTS; i++) {
            boolean right = upright ? b[i] == a[i] || b[i] == a[i] + 1 : b[i] >= a[i] && a[i] >= b[i + 1];
            if (!right) {
                return false;
            }
        }
        return true;
    }

    private boolean rimFits(int q) {
        int[][][] s = shapes();
        for (int x = 1; x <= now.columns; x++) {
            if (!goesOn(s[x][now.rows], s[x - 1][now.rows], q == 1 || q == 3)) {
                return false;
            }
        }
        for (int y = 1; y <= now.rows; y++) {
            if (!goesOn(s[now.columns][y], s[now.columns][y - 1], q == 2 || q == 3)) {
                return false;
            }
        }
        return true;
    }

    int fits(int q) {
        return q < 0 || q > 3 ? BAD : rimFits(q) ? 1 : 0;
    }

    int back(int q) {
        if (q < 0 || q > 3) {
            return BAD;
        }
        if (!rimFits(q)) {
            return STATE;
        }
        int[][][] s = shapes();
        Grid next = new Grid(now.columns, now.rows, q, Map.of());
        int other = 0;
        for (int x = now.columns; x >= 1; x--) {
            for (int y = now.rows; y >= 1; y--) {
                int m = backOne(q, s, x, y);
                if (m < 0) {
                    throw new IllegalStateException("a number below 0");
                }
                if (m > 3) {
                    return STATE;
                }
                next = next.with(x, y, m);
                other += m != now.number(x, y) ? 1 : 0;
            }
        }
        for (int k = 0; k <= 5; k++) {
            if (k <= now.columns && size(s[k][0]) != 0 || k <= now.rows && size(s[0][k]) != 0) {
                throw new IllegalStateException("a shape that isn't empty at the edge");
            }
        }
        deed(next);
        return other;
    }

    private static int backOne(int q, int[][][] s, int x, int y) {
        int[] young = s[x][y], left = s[x - 1][y], low = s[x][y - 1], old = new int[PARTS];
        int c = 0;
        for (int i = length(young) - 1; i >= 0; i--) {
            int n = young[i], a = left[i], b = low[i];
            if (q == 0) {
                old[i] = Math.min(a, b) - c;
                c = n - Math.max(a, b);
            } else if (q == 1) {
                old[i] = Math.min(a, b - c);
                c = n - Math.max(a, b - c);
            } else if (q == 2) {
                old[i] = Math.min(b, a - c);
                c = n - Math.max(b, a - c);
            } else {
                int e = n == a && n == b ? 1 : 0;
                int d = Math.min(c, e);
                old[i] = Math.min(a, b) - d;
                c = c - d + n - Math.max(a, b);
            }
        }
        s[x - 1][y - 1] = old;
        return c;
    }

    // ---- rows of cells, corners in order

    private static boolean follows(int kind, int x, int y, int aheadX, int aheadY) {
        switch (kind) {
            case 0: return x >= aheadX && y >= aheadY && (x != aheadX || y != aheadY);
            case 1: return x > aheadX && y > aheadY;
            case 2: return x >= aheadX && y <= aheadY && (x != aheadX || y != aheadY);
            default: return x > aheadX && y < aheadY;
        }
    }

    int longest(int kind, int what) {
        if (kind < 0 || kind > 3 || what < 0 || what > 1) {
            return BAD;
        }
        Map<Integer, Integer> from = new HashMap<>();
        int best = 0;
        for (int x = 1; x <= now.columns; x++) {
            for (int y = 1; y <= now.rows; y++) {
                best = Math.max(best, bestFrom(kind, what, x, y, from));
            }
        }
        return best;
    }

    private int bestFrom(int kind, int what, int x, int y, Map<Integer, Integer> known) {
        Integer before = known.get(10 * x + y);
        if (before != null) {
            return before;
        }
        int behind = 0;
        for (int nx = 1; nx <= now.columns; nx++) {
            for (int ny = 1; ny <= now.rows; ny++) {
                if (follows(kind, nx, ny, x, y)) {
                    behind = Math.max(behind, bestFrom(kind, what, nx, ny, known));
                }
            }
        }
        int v = now.number(x, y);
        int best = behind + (what == 0 ? v : v > 0 ? 1 : 0);
        known.put(10 * x + y, best);
        return best;
    }

    int union(int k, int kind) {
        if (k < 1 || k > 5 || (kind != 1 && kind != 3)) {
            return BAD;
        }
        List<int[]> ones = new ArrayList<>();
        for (int x = 1; x <= now.columns; x++) {
            for (int y = 1; y <= now.rows; y++) {
                int v = now.number(x, y);
                if (v > 1) {
                    return STATE;
                }
                if (v == 1) {
                    for (int[] one : ones) {
                        if (one[0] == x || one[1] == y) {
                            return STATE;
                        }
                    }
                    ones.add(new int[] {x, y});
                }
            }
        }
        return bestParting(ones, 0, kind, new int[k][]);
    }

    /** Each one is left out or put behind one of the rows; they come with rising x. */
    private static int bestParting(List<int[]> ones, int from, int kind, int[][] lasts) {
        if (from == ones.size()) {
            return 0;
        }
        int best = bestParting(ones, from + 1, kind, lasts);
        int[] one = ones.get(from);
        for (int k = 0; k < lasts.length; k++) {
            int[] last = lasts[k];
            if (last == null || follows(kind, one[0], one[1], last[0], last[1])) {
                lasts[k] = one;
                best = Math.max(best, 1 + bestParting(ones, from + 1, kind, lasts));
                lasts[k] = last;
            }
        }
        return best;
    }

    int corner(int k) {
        if (k < 0) {
            return BAD;
        }
        int[][][] s = shapes();
        List<Integer> order = new ArrayList<>();
        for (int y = now.rows; y >= 0; y--) {
            for (int x = now.columns; x >= 0; x--) {
                order.add(10 * x + y);
            }
        }
        Comparator<Integer> bySize = Comparator.comparing(p -> -size(s[p / 10][p % 10]));
        Comparator<Integer> byParts = (p, q) -> Arrays.compare(s[q / 10][q % 10], s[p / 10][p % 10]);
        order.sort(bySize.thenComparing(byParts).thenComparing(p -> p / 10).thenComparing(p -> p % 10));
        return k < order.size() ? order.get(k) : NOT;
    }

    int unlike(int what) {
        if (what < 0 || what > 1) {
            return BAD;
        }
        Map<String, Integer> kinds = new HashMap<>();
        for (int[][] column : shapes()) {
            for (int[] s : column) {
                kinds.merge(Arrays.toString(s), 1, Integer::sum);
            }
        }
        return what == 0 ? kinds.size() : kinds.values().stream().max(Integer::compare).orElseThrow();
    }

    // ---- texts

    int feed(int v, int n) {
        if (n < 1 || n > 4) {
            return BAD;
        }
        if (tape.size() + n > 60) {
            return FULL;
        }
        byte[] four = java.nio.ByteBuffer.allocate(4).putInt(v).array();
        for (int i = 4 - n; i < 4; i++) {
            tape.add(four[i] & 0xff);
        }
        return tape.size();
    }

    int wipe() {
        int had = tape.size();
        tape.clear();
        return had;
    }

    int read() {
        List<Integer> text = new ArrayList<>(tape);
        tape.clear();
        int c = 0, r = 0, p = 0;
        Map<Integer, Integer> numbers = new HashMap<>();
        // What must stand at each place is told as a text of the figures that may stand there.
        List<String> due = new ArrayList<>(List.of("12345", "12345"));
        while (p < due.size()) {
            if (p >= text.size() || due.get(p).indexOf(text.get(p)) < 0) {
                return -1000 - p;
            }
            if (p == 1) {
                c = text.get(0) - '0';
                r = text.get(1) - '0';
                for (int y = 0; y < r; y++) {
                    due.add(";");
                    for (int x = 0; x < c; x++) {
                        due.add("0123");
                    }
                }
            } else if (p > 1) {
                int x = (p - 2) % (c + 1), y = r - (p - 2) / (c + 1);
                if (x > 0 && text.get(p) != '0') {
                    numbers.put(10 * x + y, text.get(p) - '0');
                }
            }
            p++;
        }
        if (text.size() > p) {
            return -1000 - p;
        }
        deed(new Grid(c, r, now.rule, numbers));
        return numbers.size();
    }

    // ---- holders, the image

    private static boolean isHolder(int h) {
        return 0 <= h && h <= 5;
    }

    int hold(int h, int x, int y) {
        if (!isHolder(h) || !isCorner(x, y)) {
            return BAD;
        }
        heldShape[h] = shapes()[x][y];
        heldRow[h] = null;
        return size(heldShape[h]);
    }

    int drop(int h) {
        if (!isHolder(h)) {
            return BAD;
        }
        int was = heldRow[h] != null ? 3 : heldShape[h] == null ? 0 : length(heldShape[h]) <= 1 ? 1 : 2;
        heldShape[h] = null;
        heldRow[h] = null;
        return was;
    }

    int taken(int h, int kind) {
        if (!isHolder(h) || kind < 0 || kind > 2) {
            return BAD;
        }
        if (heldRow[h] != null) {
            return -12;
        }
        if (heldShape[h] == null) {
            return -11;
        }
        boolean flat = length(heldShape[h]) <= 1;
        switch (kind) {
            case 0: return size(heldShape[h]);
            case 1: return flat ? heldShape[h][0] : -12;
            default: return flat ? -12 : length(heldShape[h]);
        }
    }

    int was(int h, int i) {
        if (!isHolder(h) || i < 0 || i > 99) {
            return BAD;
        }
        return heldRow[h] != null ? -12 : heldShape[h] == null ? -11 : heldShape[h][i];
    }

    int row(int h, int n) {
        if (!isHolder(h) || n > 30) {
            return BAD;
        }
        if (n < 0) {
            return -14;
        }
        heldShape[h] = null;
        heldRow[h] = new int[n];
        return n;
    }

    int set(int h, int i, int v) {
        if (!isHolder(h)) {
            return BAD;
        }
        if (heldRow[h] == null) {
            return heldShape[h] == null ? -11 : -12;
        }
        if (i < 0 || i >= heldRow[h].length) {
            return -13;
        }
        heldRow[h][i] = v;
        return 1;
    }

    long get(int h, int i) {
        boolean there = isHolder(h) && heldRow[h] != null && i >= 0 && i < heldRow[h].length;
        return there ? heldRow[h][i] : NO;
    }

    int judge(int h, int x, int y) {
        if (!isHolder(h) || !isCorner(x, y)) {
            return BAD;
        }
        if (heldRow[h] == null) {
            return heldShape[h] == null ? -11 : -12;
        }
        int otherwise = Arrays.mismatch(Arrays.copyOf(heldRow[h], PARTS), shapes()[x][y]);
        return otherwise < 0 ? NOT : otherwise;
    }

    int image() {
        image = now;
        return now.numbers.size();
    }

    int restore() {
        if (image == null) {
            return STATE;
        }
        now = image;
        doable.clear();
        undone.clear();
        return now.numbers.size();
    }

    int count(int what) {
        switch (what) {
            case 0: return now.columns;
            case 1: return now.rows;
            case 2: return now.rule;
            case 3: return doable.size();
            case 4: return undone.size();
            case 5: return tape.size();
            case 6: return now.numbers.values().stream().mapToInt(v -> v).sum();
            default: return BAD;
        }
    }
}
