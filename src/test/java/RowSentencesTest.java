/** The document sentence by sentence: rows of cells, unions, corners in order (promises 18 to 21). */
public final class RowSentencesTest extends Sentences {
    private static final String ALL_3 = "55;33333;33333;33333;33333;33333";

    public static void main(String[] args) {
        kindsOfRows();
        straightRows();
        rowsOfOneCell();
        sumsAndCounts();
        wrongKinds();
        marked();
        unions();
        unionsOfFewerRows();
        wrongUnions();
        orderBySize();
        orderOfLikeShapes();
        cornersBeyond();
        unlikeShapes();
        end();
    }

    private static void dueRows(GrowthGrid g, int what, int... want) {
        for (int kind = 0; kind <= 3; kind++) {
            due(g.longest(kind, what), want[kind]);
        }
    }

    // ---- rows

    private static void kindsOfRows() {
        GrowthGrid g = of("33;012;300;023");
        says("0 RISING: each next CELL (x, y) has x and y not less than the one ahead, and is another one.");
        due(g.longest(0, 0), 7);
        due(g.longest(0, 1), 3);
        due(of("22;01;10").longest(0, 1), 2);
        due(of("22;10;01").longest(0, 1), 1);

        says("1 STEEP: both greater.");
        due(g.longest(1, 0), 5);
        due(g.longest(1, 1), 2);
        due(of("22;01;10").longest(1, 1), 2);
        due(of("22;10;01").longest(1, 1), 1);
        due(of("22;11;00").longest(1, 1), 1);
        due(of("22;01;01").longest(1, 1), 1);

        says("2 FALLING: x not less, y not greater, another one.");
        due(g.longest(2, 0), 8);
        due(g.longest(2, 1), 3);
        due(of("22;10;01").longest(2, 1), 2);
        due(of("22;01;10").longest(2, 1), 1);

        says("3 SHEER: x greater, y less.");
        due(g.longest(3, 0), 6);
        due(g.longest(3, 1), 2);
        due(of("22;10;01").longest(3, 1), 2);
        due(of("22;01;10").longest(3, 1), 1);
        due(of("22;11;00").longest(3, 1), 1);
        due(of("22;01;01").longest(3, 1), 1);
    }

    private static void straightRows() {
        says("A row of CELLS RISING may go on straight.");
        GrowthGrid g = of("51;12321");
        dueRows(g, 0, 9, 3, 9, 3);
        dueRows(g, 1, 5, 1, 5, 1);
        g = of("15;1;2;3;2;1");
        dueRows(g, 0, 9, 3, 9, 3);
        dueRows(g, 1, 5, 1, 5, 1);
        g = of(ALL_3);
        dueRows(g, 0, 27, 15, 27, 15);
        dueRows(g, 1, 9, 5, 9, 5);
        g = of("52;33333;33333");
        dueRows(g, 0, 18, 6, 18, 6);
        g = of("25;11;11;11;11;11");
        dueRows(g, 0, 6, 2, 6, 2);
    }

    private static void rowsOfOneCell() {
        says("of all such ROWS (of one CELL, too) the greatest sum of NUMBERS");
        for (int x = 1; x <= 3; x++) {
            for (int y = 1; y <= 2; y++) {
                GrowthGrid g = new GrowthGrid();
                g.grid(3, 2);
                g.put(x, y, 3);
                dueRows(g, 0, 3, 3, 3, 3);
                dueRows(g, 1, 1, 1, 1, 1);
            }
        }
        dueRows(of("11;2"), 0, 2, 2, 2, 2);
        // One CELL is more than two others.
        dueRows(of("33;100;030;001"), 0, 3, 3, 5, 5);
        dueRows(of("33;003;100;010"), 0, 4, 4, 3, 3);

        says("LONGEST without NUMBERS is 0.");
        dueRows(new GrowthGrid(), 0, 0, 0, 0, 0);
        dueRows(new GrowthGrid(), 1, 0, 0, 0, 0);
        GrowthGrid g = of(ALL_3);
        g.longest(0, 0);
        g.grid(5, 5);
        dueRows(g, 0, 0, 0, 0, 0);
        dueRows(g, 1, 0, 0, 0, 0);
    }

    private static void sumsAndCounts() {
        says("DENSEST: the most CELLS with a NUMBER above 0 in one");
        // The densest rows are not those of the greatest sums.
        GrowthGrid g = of("33;111;000;300");
        dueRows(g, 0, 6, 4, 4, 3);
        dueRows(g, 1, 4, 2, 3, 1);
        g = of("33;003;020;100");
        dueRows(g, 1, 3, 3, 1, 1);

        says("the greatest sum of NUMBERS");
        // NUMBERS, not WORTHS.
        for (int rule = 0; rule <= 3; rule++) {
            dueRows(of("33;003;020;100", rule), 0, 6, 6, 3, 3);
        }
        // Nothing stays of a larger grid.
        g = of(ALL_3);
        g.longest(0, 0);
        g.grid(2, 3);
        g.put(2, 3, 1);
        dueRows(g, 0, 1, 1, 1, 1);
    }

    private static void wrongKinds() {
        says("LONGEST (what 0), DENSEST (1) by a KIND (0 .. 3). BAD.");
        GrowthGrid g = of(ALL_3);
        for (int no : new int[] {-1, 4, 5, LEAST, GREATEST}) {
            due(g.longest(no, 0), BAD);
            due(g.longest(no, 1), BAD);
        }
        for (int no : new int[] {-1, 2, 3, LEAST, GREATEST}) {
            due(g.longest(0, no), BAD);
            due(g.longest(3, no), BAD);
        }
    }

    // ---- unions

    private static void marked() {
        says("MARKED: all NUMBERS are 0 or 1, with one 1 at most in each COLUMN and each ROW.");
        due(of("11;1").union(1, 1), 1);
        due(of("11;2").union(1, 1), STATE);
        due(of("11;3").union(1, 3), STATE);
        due(of("22;10;01").union(1, 3), 2);
        due(of("22;11;00").union(1, 1), STATE);
        due(of("22;00;11").union(1, 1), STATE);
        due(of("22;10;10").union(1, 1), STATE);
        due(of("22;01;01").union(1, 3), STATE);
        due(of("51;10001").union(5, 1), STATE);
        due(of("15;1;0;0;0;1").union(5, 1), STATE);
        due(of("51;00001").union(5, 1), 1);
        due(of("15;1;0;0;0;0").union(5, 3), 1);
        for (int rule = 0; rule <= 3; rule++) {
            due(of("22;00;02", rule).union(1, 1), STATE);
            due(of("22;01;00", rule).union(1, 1), 1);
        }
        due(new GrowthGrid().union(1, 1), 0);
    }

    private static void dueUnions(GrowthGrid g, int kind, int... want) {
        for (int k = 1; k <= want.length; k++) {
            due(g.union(k, kind), want[k - 1]);
        }
    }

    private static void unions() {
        says("the most CELLS with NUMBER 1 that can be parted into k such ROWS");
        GrowthGrid g = new GrowthGrid();
        g.grid(5, 5);
        for (int rule = 0; rule <= 3; rule++) {
            g.rule(rule);
            // 2 4 5 and 1 3; 2 1 and 5 3.
            g.word(24153);
            dueUnions(g, 1, 3, 5, 5, 5, 5);
            dueUnions(g, 3, 2, 4, 5, 5, 5);
            // 2 3 4 is as long as 1 3 4, but leaves no row of two: 2 5 and 1 3 4.
            g.word(25134);
            dueUnions(g, 1, 3, 5, 5, 5, 5);
            dueUnions(g, 3, 2, 4, 5, 5, 5);
            // 1 and 5 stand apart.
            g.word(52341);
            dueUnions(g, 1, 3, 4, 5, 5, 5);
            dueUnions(g, 3, 3, 4, 5, 5, 5);
            g.word(12345);
            dueUnions(g, 1, 5, 5, 5, 5, 5);
            dueUnions(g, 3, 1, 2, 3, 4, 5);
            g.word(54321);
            dueUnions(g, 1, 1, 2, 3, 4, 5);
            dueUnions(g, 3, 5, 5, 5, 5, 5);
        }
    }

    private static void unionsOfFewerRows() {
        says("can be parted into k such ROWS (or fewer)");
        GrowthGrid g = new GrowthGrid();
        g.grid(5, 5);
        g.word(20401);
        dueUnions(g, 1, 2, 3, 3, 3, 3);
        dueUnions(g, 3, 2, 3, 3, 3, 3);
        g.word(30000);
        dueUnions(g, 1, 1, 1, 1, 1, 1);
        dueUnions(g, 3, 1, 1, 1, 1, 1);
        g.word(0);
        dueUnions(g, 1, 0, 0, 0, 0, 0);
        dueUnions(g, 3, 0, 0, 0, 0, 0);
        g = of("25;01;00;10;00;00");
        dueUnions(g, 1, 2, 2, 2, 2, 2);
        dueUnions(g, 3, 1, 2, 2, 2, 2);
    }

    private static void wrongUnions() {
        says("UNION of k by KIND 1, 3. BAD: k, kind; STATE: it is not MARKED.");
        GrowthGrid g = of("22;10;01"), unmarked = of("22;20;01");
        for (int no : new int[] {0, -1, 6, 7, LEAST, GREATEST}) {
            due(g.union(no, 1), BAD);
            due(g.union(no, 3), BAD);
            due(unmarked.union(no, 1), BAD);
        }
        for (int no : new int[] {0, 2, 4, 5, -1, LEAST, GREATEST}) {
            due(g.union(1, no), BAD);
            due(unmarked.union(5, no), BAD);
        }
        due(unmarked.union(1, 1), STATE);
        due(unmarked.union(5, 3), STATE);
    }

    // ---- corners in order

    private static void dueCorners(GrowthGrid g, int... want) {
        for (int k = 0; k < want.length; k++) {
            due(g.corner(k), want[k]);
        }
        due(g.corner(want.length), NOT);
    }

    private static void orderBySize() {
        says("the greater SIZE first; of like ones that whose SHAPE has the greater PART at the first i at which they differ");
        dueCorners(of("11;1"), 11, 0, 1, 10);
        // (2, 1): 2; (1, 2): 1 1.
        dueCorners(of("22;11;11", 1), 22, 21, 12, 11, 0, 1, 2, 10, 20);
        dueCorners(of("22;11;11", 2), 22, 12, 21, 11, 0, 1, 2, 10, 20);
        // (2, 2): 1 1 1, of the greater size, is ahead of (1, 2): 2.
        dueCorners(of("22;20;01"), 22, 12, 21, 0, 1, 2, 10, 11, 20);

        says("The greater PART stands ahead in the order of CORNERS.");
        GrowthGrid g = of("33;100;110;111", 1);
        due(shapeOf(g, 3, 1), "3");
        due(shapeOf(g, 1, 3), "1 1 1");
        due(shapeOf(g, 2, 2), "2 2");
        due(shapeOf(g, 2, 3), "2 2 1");
        due(shapeOf(g, 3, 2), "3 2");
        dueCorners(g, 33, 32, 23, 22, 31, 13, 21, 12, 11, 0, 1, 2, 3, 10, 20, 30);
    }

    private static void orderOfLikeShapes() {
        says("of like ones the lesser x, then the lesser y");
        dueCorners(new GrowthGrid(), 0, 1, 2, 3, 10, 11, 12, 13, 20, 21, 22, 23, 30, 31, 32, 33);
        dueCorners(of("22;00;10"), 11, 12, 21, 22, 0, 1, 2, 10, 20);
        dueCorners(of("32;000;010"), 21, 22, 31, 32, 0, 1, 2, 10, 11, 12, 20, 30);
        dueCorners(of("13;0;0;0"), 0, 1, 2, 3, 10, 11, 12, 13);
    }

    private static void cornersBeyond() {
        says("CORNER k by ORDER (from 0): 10 times x, plus y. BAD: k below 0; NOT: there are not as many.");
        GrowthGrid g = new GrowthGrid();
        due(g.corner(15), 33);
        due(g.corner(16), NOT);
        due(g.corner(100), NOT);
        due(g.corner(GREATEST), NOT);
        due(g.corner(-1), BAD);
        due(g.corner(-2), BAD);
        due(g.corner(LEAST), BAD);
        g.grid(5, 5);
        due(g.corner(35), 55);
        due(g.corner(36), NOT);
        g.grid(1, 1);
        due(g.corner(3), 11);
        due(g.corner(4), NOT);
        g.grid(5, 1);
        due(g.corner(11), 51);
        due(g.corner(12), NOT);
        // The order is that of the grid as it is.
        g.put(5, 1, 1);
        due(g.corner(0), 51);
        g.put(1, 1, 1);
        due(g.corner(1), 11);
        g.undo();
        due(g.corner(1), 0);
    }

    private static void unlikeShapes() {
        says("How many unlike SHAPES CORNERS have (what 0); how many CORNERS have that which most have (1). BAD.");
        // Either can be asked first.
        due(new GrowthGrid().unlike(1), 16);
        due(of("22;11;11").unlike(1), 5);
        GrowthGrid g = new GrowthGrid();
        due(g.unlike(0), 1);
        due(g.unlike(1), 16);
        // Of 25 corners 9 are empty, 16 have the shape 1.
        g.grid(4, 4);
        g.put(1, 1, 1);
        due(g.unlike(0), 2);
        due(g.unlike(1), 16);
        // Shapes of like size that differ: 2 and 1 1.
        g = of("22;11;11", 1);
        due(g.unlike(0), 5);
        due(g.unlike(1), 5);
        g.rule(0);
        due(g.unlike(0), 4);
        due(g.unlike(1), 5);
        g = of(ALL_3);
        due(g.unlike(0), 16);
        due(g.unlike(1), 11);
        g.grid(5, 5);
        due(g.unlike(0), 1);
        due(g.unlike(1), 36);
        for (int no : new int[] {-1, 2, 3, LEAST, GREATEST}) {
            due(g.unlike(no), BAD);
        }
    }
}
