import java.util.TreeMap;
import java.util.TreeSet;

/** What the other sentence tests leave of the document: the frame of its terms, over whole families of grids. */
public final class TermSentencesTest extends Sentences {
    private static final String ALL_3 = "55;33333;33333;33333;33333;33333";

    public static void main(String[] args) {
        columnsAndRows();
        whereShapesComeFrom();
        wholeBack();
        backAsItIs();
        wholePaths();
        wholeWords();
        standardsOfWords();
        unionsAsked();
        wholeOrder();
        wholeTexts();
        answersByNumber();
        end();
    }

    // ---- the grid and its shapes

    private static void columnsAndRows() {
        says("THE GRID has COLUMNS 1 .. C and ROWS 1 .. R");
        for (int c = 1; c <= 5; c++) {
            for (int r = 1; r <= 5; r++) {
                GrowthGrid g = new GrowthGrid();
                g.grid(c, r);
                for (int x = -1; x <= 6; x++) {
                    for (int y = -1; y <= 6; y++) {
                        boolean there = x >= 1 && x <= c && y >= 1 && y <= r;
                        due(g.put(x, y, 1), there ? 0 : BAD);
                        due(g.cell(x, y), there ? 1 : BAD);
                    }
                }
                due(g.count(6), c * r);
            }
        }

        says("CELL (x, y), x a COLUMN, y a ROW,");
        GrowthGrid g = new GrowthGrid();
        g.grid(4, 2);
        due(g.put(4, 2, 1), 0);
        due(g.put(2, 4, 1), BAD);
        due(g.cell(2, 4), BAD);
        due(textOf(g), "42;0001;0000");

        says("The NUMBER of a CELL. BAD.");
        due(g.cell(4, 2), 1);
        due(g.cell(4, 1), 0);
        for (int no : new int[] {LEAST, -1, 0, 6, GREATEST}) {
            due(g.cell(no, 1), BAD);
            due(g.cell(1, no), BAD);
        }
        due(g.cell(5, 2), BAD);
        due(g.cell(4, 3), BAD);
    }

    private static void whereShapesComeFrom() {
        says("The SHAPE NEW of another one (x, y) comes by RULE from OLD, the SHAPE of (x less 1, y less 1), "
                + "LEFT, that of (x less 1, y), LOW, that of (x, y less 1), and from WORTH of CELL (x, y)");
        // LEFT is 1, LOW and OLD are EMPTY; then LOW is 1, LEFT and OLD are EMPTY.
        due(shapeOf(of("21;11", 1), 2, 1), "2");
        due(shapeOf(of("12;1;1", 1), 1, 2), "1 1");
        due(shapeOf(of("21;11", 2), 2, 1), "1 1");
        due(shapeOf(of("12;1;1", 2), 1, 2), "2");
        for (int rule = 0; rule <= 3; rule++) {
            // LEFT and LOW are 1 each, OLD is EMPTY first, then 1.
            due(shapeOf(of("22;10;01", rule), 2, 2), "1 1");
            due(shapeOf(of("22;00;10", rule), 2, 2), "1");
            due(shapeOf(of("22;01;10", rule), 2, 2), "2");
        }

        says("c is that WORTH first; then for i 0, 1, 2, .., one behind the other,");
        due(shapeOf(of("21;12", 0), 2, 1), "3");
        due(shapeOf(of("21;12", 1), 2, 1), "2");
        due(shapeOf(of("21;12", 2), 2, 1), "1 1");
        due(shapeOf(of("21;12", 3), 2, 1), "1 1 1");

        says("N, O, A, B being PART i of NEW, OLD, LEFT, LOW:");
        // In each grid a SHAPE has the WORTHS of all CELLS to the left and below as its SIZE.
        for (int rule = 0; rule <= 3; rule++) {
            GrowthGrid g = of("55;01210;30012;00300;11111;20003", rule);
            for (int x = 0; x <= 5; x++) {
                for (int y = 0; y <= 5; y++) {
                    due(g.shape(x, y, 0), worthsWithin(g, x, y, rule));
                }
            }
        }
    }

    private static int worthsWithin(GrowthGrid g, int columns, int rows, int rule) {
        int n = 0;
        for (int x = 1; x <= columns; x++) {
            for (int y = 1; y <= rows; y++) {
                n += rule == 1 || rule == 2 ? Math.min(1, g.cell(x, y)) : g.cell(x, y);
            }
        }
        return n;
    }

    // ---- back

    private static void wholeBack() {
        says("BACK by a RULE q, which THE RIM FITS: for each CELL, x from C down to 1, and for each x y from R down to 1,");
        // Behind the RULE by which it has grown each rim finds the WORTHS again.
        for (int rule = 0; rule <= 3; rule++) {
            for (int n = 0; n < 256; n++) {
                String a = digits(n, 4);
                dueBackToWorths("22;" + a.charAt(0) + a.charAt(1) + ";" + a.charAt(2) + a.charAt(3), rule);
            }
            for (int n = 0; n < 64; n++) {
                String a = digits(n, 3);
                dueBackToWorths("31;" + a, rule);
                dueBackToWorths("13;" + a.charAt(0) + ";" + a.charAt(1) + ";" + a.charAt(2), rule);
            }
            for (String text : new String[] {"52;30201;12033", "25;30;21;03;11;32", "34;123;012;301;230", ALL_3}) {
                dueBackToWorths(text, rule);
            }
        }

        says("c is 0 first; for i from (LENGTH of NEW) less 1 down to 0:");
        for (int v = 0; v <= 3; v++) {
            for (int rule = 0; rule <= 3; rule += 3) {
                GrowthGrid g = of("11;" + v, rule);
                due(g.back(rule), 0);
                due(g.cell(1, 1), v);
            }
        }

        says("m is c at last.");
        // One PART of 1 is all that the rules have in common.
        for (int q = 0; q <= 3; q++) {
            GrowthGrid g = of("11;1", 3 - q);
            due(g.back(q), 0);
            due(g.cell(1, 1), 1);
            due(g.count(2), q);
        }
    }

    private static String digits(int n, int many) {
        StringBuilder s = new StringBuilder();
        for (int k = 0, rest = n; k < many; k++, rest /= 4) {
            s.append(rest % 4);
        }
        return s.toString();
    }

    private static void dueBackToWorths(String text, int rule) {
        GrowthGrid g = of(text, rule);
        String head = text.substring(0, 2), cells = text.substring(2);
        String worths = rule == 1 || rule == 2 ? cells.replaceAll("[23]", "1") : cells;
        int above = cells.length() - cells.replaceAll("[23]", "").length();
        due(g.fits(rule), 1);
        due(g.back(rule), rule == 1 || rule == 2 ? above : 0);
        due(textOf(g), head + worths);
    }

    private static void backAsItIs() {
        says("BACK by a RULE from THE RIM as it is:");
        // THE RIM is that by the RULE ahead of back(), not by its own.
        GrowthGrid g = of("21;11", 2);
        due(shapeOf(g, 2, 1), "1 1");
        due(g.back(1), STATE);
        due(g.back(2), 0);
        g.rule(1);
        due(shapeOf(g, 2, 1), "2");
        due(g.back(2), STATE);
        due(g.back(0), 0);
        due(textOf(g), "21;11");
        // What has been UNDONE is THE RIM again.
        g.put(1, 1, 3);
        due(g.back(1), STATE);
        due(g.undo(), 5);
        due(g.back(1), 0);
    }

    // ---- paths, words

    private static void wholePaths() {
        says("A PATH: C plus R STEPS from CORNER (0, R) to (C, 0), told as bits:");
        // Where all NUMBERS are 1 the SIZE at (x, y) is x times y.
        for (int side = 0; side <= 1; side++) {
            int rows = 2 + side;
            GrowthGrid g = of(side == 0 ? "32;111;111" : "23;11;11;11");
            for (int path = 0; path < 64; path++) {
                int x = 0, y = rows;
                for (int k = 0; k <= 5; k++) {
                    boolean right = path < 32 && Integer.bitCount(path) == rows;
                    due(g.along(path, k), right ? x * y : BAD);
                    x += 1 - (path >> k & 1);
                    y -= path >> k & 1;
                }
            }
        }
    }

    private static void wholeWords() {
        says("By a WORD, in each COLUMN x the CELL whose ROW is that digit has NUMBER 1");
        for (int columns = 1; columns <= 3; columns++) {
            for (int rows = 1; rows <= 5; rows += 2) {
                int most = 1;
                for (int x = 0; x < columns; x++) {
                    most *= 10;
                }
                for (int w = 0; w < 2 * most; w++) {
                    GrowthGrid g = new GrowthGrid();
                    g.grid(columns, rows);
                    int ones = onesOf(w, rows);
                    boolean right = w < most && ones >= 0;
                    due(g.word(w), right ? ones : BAD);
                    due(g.count(3), right ? 2 : 1);
                    due(g.count(6), right ? ones : 0);
                    due(g.spelled(), right ? w : 0);
                }
            }
        }

        says("THE GRID is SPELLED, if in each COLUMN one CELL at most has a NUMBER that is not 0, and that is 1");
        for (int n = 0; n < 256; n++) {
            String a = digits(n, 4);
            // Columns are the first and third sign, and the second and fourth one: row 2, row 1.
            GrowthGrid g = of("22;" + a.substring(0, 2) + ";" + a.substring(2));
            int one = digitOf(a.charAt(2), a.charAt(0)), two = digitOf(a.charAt(3), a.charAt(1));
            due(g.spelled(), one < 0 || two < 0 ? NOT : 10 * one + two);
        }
    }

    /** How many digits of a word are not 0; -1: one is above the rows. */
    private static int onesOf(int w, int rows) {
        int ones = 0;
        for (int rest = w; rest > 0; rest /= 10) {
            if (rest % 10 > rows) {
                return -1;
            }
            ones += rest % 10 > 0 ? 1 : 0;
        }
        return ones;
    }

    private static int digitOf(char first, char second) {
        switch ("" + first + second) {
            case "00": return 0;
            case "10": return 1;
            case "01": return 2;
            default: return -1;
        }
    }

    private static void standardsOfWords() {
        says("STANDARD of the SHAPE of a CORNER.");
        // A SHAPE comes from as many orders of 1 .. 5 as pairs of its STANDARD fillings.
        TreeMap<String, Integer> seen = new TreeMap<>();
        TreeMap<String, Long> standards = new TreeMap<>();
        int orders = 0;
        for (int w = 12345; w <= 54321; w++) {
            GrowthGrid g = new GrowthGrid();
            g.grid(5, 5);
            if (g.word(w) == 5 && g.union(5, 1) == 5) {
                String shape = shapeOf(g, 5, 5);
                seen.merge(shape, 1, Integer::sum);
                standards.put(shape, g.standard(5, 5));
                orders++;
            }
        }
        due(orders, 120);
        due(seen.size(), 7);
        for (String shape : seen.keySet()) {
            due(standards.get(shape) * standards.get(shape), seen.get(shape));
        }
    }

    // ---- rows of cells, corners in order

    private static void unionsAsked() {
        says("UNION of k (1 .. 5) by KIND 1 or 3 (if it is MARKED):");
        GrowthGrid g = of("33;001;100;010");
        // As a word: 2, 1, 3.
        due(g.union(1, 1), 2);
        due(g.union(1, 3), 2);
        for (int k = 2; k <= 5; k++) {
            due(g.union(k, 1), 3);
            due(g.union(k, 3), 3);
        }
        for (int no : new int[] {LEAST, -1, 0, 6, GREATEST}) {
            due(g.union(no, 1), BAD);
            due(g.union(no, 3), BAD);
        }
        for (int no : new int[] {LEAST, -3, -1, 0, 2, 4, 5, GREATEST}) {
            due(g.union(1, no), BAD);
        }
        g.put(3, 3, 2);
        due(g.union(1, 1), STATE);
        due(g.union(6, 1), BAD);
        due(g.union(1, 2), BAD);
    }

    private static void wholeOrder() {
        says("ORDER of CORNERS:");
        for (int c = 1; c <= 5; c++) {
            for (int r = 1; r <= 5; r++) {
                GrowthGrid g = new GrowthGrid();
                g.grid(c, r);
                g.rule((c + r) % 4);
                g.put(c, 1, 2);
                g.put(1, r, 3);
                int many = (c + 1) * (r + 1);
                TreeSet<Integer> corners = new TreeSet<>();
                int ahead = GREATEST;
                for (int k = 0; k < many; k++) {
                    int corner = g.corner(k), size = g.shape(corner / 10, corner % 10, 0);
                    due(size <= ahead ? 1 : 0, 1);
                    ahead = size;
                    corners.add(corner);
                }
                due(corners.size(), many);
                due(g.corner(many), NOT);
                due(g.corner(GREATEST), NOT);
                due(g.corner(-1), BAD);
            }
        }
    }

    // ---- texts, answers

    private static void wholeTexts() {
        says("TEXT of a grid: C and R");
        for (int c = 1; c <= 5; c++) {
            for (int r = 1; r <= 5; r++) {
                GrowthGrid g = new GrowthGrid();
                StringBuilder text = new StringBuilder().append(c).append(r);
                int above = 0;
                for (int y = 0; y < r; y++) {
                    text.append(';');
                    for (int x = 0; x < c; x++) {
                        int v = (x + 2 * y + c) % 4;
                        above += v > 0 ? 1 : 0;
                        text.append(v);
                    }
                }
                feed(g, text.toString());
                due(g.count(5), 2 + r * (c + 1));
                due(g.read(), above);
                due(textOf(g), text.toString());
                due(g.count(5), 0);
                // Each shorter one ends too early.
                for (int n = 0; n < text.length(); n += 3) {
                    feed(g, text.substring(0, n));
                    due(g.read(), -1000 - n);
                }
                feed(g, text + ";");
                due(g.read(), -1000 - text.length());
                due(textOf(g), text.toString());
            }
        }
    }

    private static void answersByNumber() {
        says("NOT (-2) as told; FULL (-3) there is no room; STATE (-5) as told; WIDE (-6) as told;");
        GrowthGrid g = of(ALL_3, 3);
        due(g.corner(36), -2);
        due(g.spelled(), -2);
        for (int n = 4; n <= 60; n += 4) {
            due(g.feed(-1, 4), n);
        }
        for (int n = 1; n <= 4; n++) {
            due(g.feed(0, n), -3);
        }
        due(g.count(5), 60);
        due(g.again(), -5);
        due(g.restore(), -5);
        due(g.union(1, 1), -5);
        due(g.back(0), -5);
        due(g.product(5, 5), -6);

        says("-11 nothing is there where something is wanted, -12 it is of another kind,");
        due(g.taken(0, 0), -11);
        due(g.was(0, 0), -11);
        due(g.set(0, 0, 1), -11);
        due(g.judge(0, 0, 0), -11);
        due(g.get(0, 0), NO);
        due(g.row(0, 1), 1);
        due(g.taken(0, 0), -12);
        due(g.was(0, 0), -12);
        due(g.hold(0, 1, 1), 3);
        due(g.taken(0, 1), -12);
        due(g.set(0, 0, 1), -12);
        due(g.judge(0, 0, 0), -12);
        due(g.get(0, 0), NO);

        says("-14 a size below 0.");
        due(g.row(0, -1), -14);
        due(g.row(5, LEAST), -14);
        due(g.row(6, -1), BAD);
        due(g.taken(0, 0), 3);
        due(g.row(5, 0), 0);
        due(g.set(5, 0, 1), -13);
    }
}
