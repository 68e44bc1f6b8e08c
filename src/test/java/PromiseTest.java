/**
 * Each promise by hand: ordinary calls, the edges that the document names, wrong numbers. The
 * number ahead of each check is that of its promise.
 */
public final class PromiseTest {
    private static final int PROMISES = 37, BAD = -1, NOT = -2, FULL = -3, STATE = -5, WIDE = -6;
    private static final int NOTHING = -11, KIND = -12, NO_PLACE = -13, BELOW = -14;
    private static final long NO = Long.MIN_VALUE;
    private static final int[] CHECKED = new int[PROMISES + 1];
    private static int wrong = 0;

    private static void due(int promise, long got, long want) {
        CHECKED[promise]++;
        if (got != want) {
            wrong++;
            int line = new Throwable().getStackTrace()[1].getLineNumber();
            System.out.println("promise " + promise + ", line " + line + ": " + got + ", due is " + want);
        }
    }

    public static void main(String[] args) {
        constants();
        newObject();
        gridSizes();
        numbers();
        rules();
        words();
        spelledGrids();
        turns();
        turnsOfLongGrids();
        partsByRules();
        partsOfSquare();
        sizesAndTurned();
        standards();
        products();
        fillings();
        paths();
        fittingRims();
        backChanges();
        backRefused();
        longestRows();
        unions();
        orderOfCorners();
        unlikeShapes();
        undoneAndAgain();
        manyDeeds();
        everyDeed();
        nothingElseIsADeed();
        fedTape();
        readTexts();
        faults();
        heldShapes();
        heldRows();
        judged();
        images();
        counts();
        for (int p = 1; p <= PROMISES; p++) {
            if (CHECKED[p] == 0) {
                wrong++;
                System.out.println("promise " + p + " has no check");
            }
        }
        System.out.println(wrong == 0 ? "all promises are kept" : wrong + " answers are not as due");
        if (wrong != 0) {
            System.exit(1);
        }
    }

    // ---- helpers

    private static GrowthGrid ofText(String text) {
        GrowthGrid g = new GrowthGrid();
        feed(g, text);
        g.read();
        return g;
    }

    private static void feed(GrowthGrid g, String text) {
        for (int i = 0; i < text.length(); i++) {
            g.feed(text.charAt(i), 1);
        }
    }

    private static int readText(GrowthGrid g, String text) {
        feed(g, text);
        return g.read();
    }

    private static void dueParts(int promise, GrowthGrid g, int x, int y, int... parts) {
        for (int i = 0; i < parts.length; i++) {
            due(promise, g.part(x, y, i), parts[i]);
        }
        due(promise, g.part(x, y, parts.length), 0);
    }

    private static void dueGrid(int promise, GrowthGrid g, String text) {
        int c = g.count(0), r = g.count(1);
        due(promise, c, text.charAt(0) - '0');
        due(promise, r, text.charAt(1) - '0');
        for (int y = r; y >= 1; y--) {
            for (int x = 1; x <= c; x++) {
                int place = 2 + (r - y) * (c + 1) + x;
                due(promise, g.cell(x, y), place < text.length() ? text.charAt(place) - '0' : -99);
            }
        }
    }

    private static final int[] FAR = {-1, 6, Integer.MIN_VALUE, Integer.MAX_VALUE};

    // ---- the grid

    private static void constants() {
        due(1, GrowthGrid.BAD, -1);
        due(1, GrowthGrid.NOT, -2);
        due(1, GrowthGrid.FULL, -3);
        due(1, GrowthGrid.STATE, -5);
        due(1, GrowthGrid.WIDE, -6);
        due(1, GrowthGrid.NO, Long.MIN_VALUE);
    }

    private static void newObject() {
        GrowthGrid g = new GrowthGrid();
        dueGrid(1, g, "33;000;000;000");
        for (int what = 2; what <= 6; what++) {
            due(1, g.count(what), 0);
        }
        due(1, g.undo(), STATE);
        due(1, g.again(), STATE);
        due(1, g.restore(), STATE);
        due(1, g.wipe(), 0);
        for (int h = 0; h <= 5; h++) {
            due(1, g.drop(h), 0);
        }
        g.put(1, 1, 2);
        due(1, new GrowthGrid().cell(1, 1), 0);
    }

    private static void gridSizes() {
        GrowthGrid g = ofText("33;000;010;002");
        g.rule(2);
        due(2, g.grid(4, 2), 33);
        dueGrid(2, g, "42;0000;0000");
        due(2, g.count(2), 2);
        due(2, g.grid(1, 5), 42);
        dueGrid(2, g, "15;0;0;0;0;0");
        due(2, g.grid(5, 1), 15);
        due(2, g.grid(5, 5), 51);
        g.put(5, 5, 3);
        due(2, g.grid(5, 5), 55);
        due(2, g.cell(5, 5), 0);
        g.put(5, 5, 3);
        g.grid(2, 2);
        g.grid(5, 5);
        due(2, g.count(6), 0);
        g.put(1, 1, 1);
        int deeds = g.count(3);
        for (int far : new int[] {0, -1, 6, Integer.MIN_VALUE, Integer.MAX_VALUE}) {
            due(2, g.grid(far, 3), BAD);
            due(2, g.grid(3, far), BAD);
        }
        due(2, g.cell(1, 1), 1);
        due(2, g.count(0), 5);
        due(2, g.count(3), deeds);
    }

    private static void numbers() {
        GrowthGrid g = new GrowthGrid();
        g.grid(5, 2);
        due(3, g.put(5, 2, 3), 0);
        due(3, g.put(5, 2, 1), 3);
        due(3, g.put(5, 2, 1), 1);
        due(3, g.put(5, 2, 0), 1);
        due(3, g.put(1, 2, 2), 0);
        due(4, g.cell(1, 2), 2);
        due(4, g.cell(2, 1), 0);
        due(4, g.cell(5, 2), 0);
        for (int far : new int[] {0, -1, 6, Integer.MIN_VALUE, Integer.MAX_VALUE}) {
            due(3, g.put(far, 1, 1), BAD);
            due(3, g.put(1, far, 1), BAD);
            due(4, g.cell(far, 1), BAD);
            due(4, g.cell(1, far), BAD);
        }
        due(3, g.put(1, 3, 1), BAD);
        due(4, g.cell(1, 3), BAD);
        due(3, g.put(1, 1, 4), BAD);
        due(3, g.put(1, 1, -1), BAD);
        due(3, g.put(1, 1, Integer.MAX_VALUE), BAD);
        due(3, g.cell(1, 1), 0);
        due(3, g.count(3), 6);
    }

    private static void rules() {
        GrowthGrid g = new GrowthGrid();
        due(5, g.rule(3), 0);
        due(5, g.rule(1), 3);
        due(5, g.rule(1), 1);
        due(5, g.rule(0), 1);
        due(5, g.rule(2), 0);
        for (int far : new int[] {-1, 4, Integer.MIN_VALUE, Integer.MAX_VALUE}) {
            due(5, g.rule(far), BAD);
        }
        due(5, g.count(2), 2);
        due(5, g.count(3), 5);
    }

    private static void words() {
        GrowthGrid g = ofText("42;3333;3333");
        due(6, g.word(2101), 3);
        dueGrid(6, g, "42;1000;0101");
        due(6, g.word(12), 2);
        dueGrid(6, g, "42;0001;0010");
        due(6, g.word(2222), 4);
        for (int w : new int[] {3, 1030, 3000, 9, 10000, 22222, -1, -11, Integer.MIN_VALUE, Integer.MAX_VALUE}) {
            due(6, g.word(w), BAD);
        }
        dueGrid(6, g, "42;1111;0000");
        due(6, g.word(0), 0);
        due(6, g.count(6), 0);
        g.grid(5, 5);
        due(6, g.word(54321), 5);
        dueGrid(6, g, "55;10000;01000;00100;00010;00001");
        due(6, g.word(55555), 5);
        due(6, g.word(55556), BAD);
        due(6, g.word(100000), BAD);
        g.grid(1, 1);
        due(6, g.word(1), 1);
        due(6, g.word(2), BAD);
        due(6, g.word(10), BAD);
    }

    private static void spelledGrids() {
        due(7, new GrowthGrid().spelled(), 0);
        due(7, ofText("42;1000;0101").spelled(), 2101);
        due(7, ofText("42;0001;0010").spelled(), 12);
        due(7, ofText("55;11111;00000;00000;00000;00000").spelled(), 55555);
        due(7, ofText("33;000;010;002").spelled(), NOT);
        due(7, ofText("33;000;010;003").spelled(), NOT);
        due(7, ofText("33;010;010;000").spelled(), NOT);
        due(7, ofText("33;020;010;000").spelled(), NOT);
        due(7, ofText("33;010;020;000").spelled(), NOT);
        due(7, ofText("33;000;111;000").spelled(), 222);
        GrowthGrid g = new GrowthGrid();
        g.word(321);
        g.rule(1);
        due(7, g.spelled(), 321);
    }

    private static void turns() {
        GrowthGrid g = ofText("32;012;300");
        g.rule(3);
        due(8, g.turn(0), 3);
        dueGrid(8, g, "23;02;01;30");
        due(8, g.count(2), 3);
        due(8, g.turn(1), 3);
        dueGrid(8, g, "23;20;10;03");
        due(8, g.turn(2), 3);
        dueGrid(8, g, "23;03;10;20");
        for (int far : new int[] {-1, 3, Integer.MIN_VALUE, Integer.MAX_VALUE}) {
            due(8, g.turn(far), BAD);
        }
        dueGrid(8, g, "23;03;10;20");
        due(8, new GrowthGrid().turn(0), 0);
    }

    private static void turnsOfLongGrids() {
        GrowthGrid g = ofText("51;12301");
        due(8, g.turn(1), 4);
        dueGrid(8, g, "51;10321");
        due(8, g.turn(2), 4);
        dueGrid(8, g, "51;10321");
        due(8, g.turn(0), 4);
        dueGrid(8, g, "15;1;2;3;0;1");
        due(8, g.turn(1), 4);
        dueGrid(8, g, "15;1;2;3;0;1");
        due(8, g.turn(2), 4);
        dueGrid(8, g, "15;1;0;3;2;1");
        due(8, g.shape(1, 5, 0), 7);
    }

    // ---- shapes

    private static void partsByRules() {
        GrowthGrid g = ofText("11;3");
        dueParts(9, g, 1, 1, 3);
        g.rule(1);
        dueParts(9, g, 1, 1, 1);
        g.rule(2);
        dueParts(9, g, 1, 1, 1);
        g.rule(3);
        dueParts(9, g, 1, 1, 1, 1, 1);
        dueParts(9, g, 0, 1);
        dueParts(9, g, 1, 0);

        g = ofText("21;23");
        dueParts(9, g, 2, 1, 5);
        g.rule(1);
        dueParts(9, g, 2, 1, 2);
        g.rule(2);
        dueParts(9, g, 2, 1, 1, 1);
        g.rule(3);
        dueParts(9, g, 1, 1, 1, 1);
        dueParts(9, g, 2, 1, 1, 1, 1, 1, 1);

        g = ofText("12;3;2");
        dueParts(9, g, 1, 2, 5);
        g.rule(1);
        dueParts(9, g, 1, 2, 1, 1);
        g.rule(2);
        dueParts(9, g, 1, 2, 2);
        g.rule(3);
        dueParts(9, g, 1, 2, 1, 1, 1, 1, 1);
    }

    private static void partsOfSquare() {
        GrowthGrid g = ofText("22;11;11");
        dueParts(9, g, 1, 1, 1);
        dueParts(9, g, 2, 1, 2);
        dueParts(9, g, 1, 2, 2);
        dueParts(9, g, 2, 2, 3, 1);
        g.rule(1);
        dueParts(9, g, 2, 1, 2);
        dueParts(9, g, 1, 2, 1, 1);
        dueParts(9, g, 2, 2, 2, 2);
        g.rule(2);
        dueParts(9, g, 2, 1, 1, 1);
        dueParts(9, g, 2, 2, 2, 2);
        g.rule(3);
        dueParts(9, g, 2, 1, 1, 1);
        dueParts(9, g, 2, 2, 2, 1, 1);
        for (int far : new int[] {-1, 3, 6, Integer.MIN_VALUE, Integer.MAX_VALUE}) {
            due(9, g.part(far, 1, 0), BAD);
            due(9, g.part(1, far, 0), BAD);
        }
        for (int i : new int[] {-1, 100, Integer.MIN_VALUE, Integer.MAX_VALUE}) {
            due(9, g.part(1, 1, i), BAD);
        }
        due(9, g.part(2, 2, 99), 0);
        due(9, g.part(0, 0, 0), 0);
        due(9, ofText("55;33333;33333;33333;33333;33333").part(5, 5, 0), 27);
    }

    private static void sizesAndTurned() {
        GrowthGrid g = ofText("22;11;31");
        due(10, g.shape(2, 2, 0), 6);
        due(10, g.shape(2, 2, 1), 2);
        due(10, g.shape(1, 2, 0), 4);
        due(10, g.shape(1, 2, 1), 1);
        due(10, g.shape(0, 2, 0), 0);
        due(10, g.shape(0, 2, 1), 0);
        // 5, 1 by rule 0.
        due(11, g.turned(2, 2, 0), 2);
        due(11, g.turned(2, 2, 1), 1);
        due(11, g.turned(2, 2, 4), 1);
        due(11, g.turned(2, 2, 5), 0);
        due(11, g.turned(2, 2, 99), 0);
        due(11, g.turned(2, 0, 0), 0);
        g.rule(1);
        due(10, g.shape(2, 2, 0), 4);
        due(11, g.turned(2, 2, 1), 2);
        for (int far : new int[] {-1, 3, 6, Integer.MIN_VALUE, Integer.MAX_VALUE}) {
            due(10, g.shape(far, 1, 0), BAD);
            due(10, g.shape(1, far, 0), BAD);
            due(11, g.turned(far, 1, 0), BAD);
            due(11, g.turned(1, far, 0), BAD);
        }
        for (int far : new int[] {-1, 100, Integer.MIN_VALUE, Integer.MAX_VALUE}) {
            due(10, g.shape(1, 1, far), BAD);
            due(11, g.turned(1, 1, far), BAD);
        }
        due(10, g.shape(1, 1, 2), BAD);
        g = ofText("55;33333;33333;33333;33333;33333");
        due(10, g.shape(5, 5, 0), 75);
        g.rule(3);
        due(10, g.shape(5, 5, 0), 75);
        due(10, g.shape(5, 5, 1), 27);
        due(11, g.turned(5, 5, 0), 27);
    }

    private static void standards() {
        GrowthGrid g = ofText("22;11;11");
        due(12, g.standard(2, 2), 3);
        due(12, g.standard(1, 1), 1);
        due(12, g.standard(0, 0), 1);
        g.rule(1);
        due(12, g.standard(2, 2), 2);
        g.rule(3);
        due(12, g.standard(2, 2), 3);
        for (int far : FAR) {
            due(12, g.standard(far, 1), NO);
            due(12, g.standard(1, far), NO);
        }
        // By rule 1 a grid of ones has R parts, C each.
        g = ofText("54;11111;11111;11111;11111");
        g.rule(1);
        due(12, g.standard(5, 4), 1662804);
        g = ofText("55;11111;11111;11111;11111;11111");
        g.rule(1);
        due(12, g.standard(5, 4), 1662804);
        due(12, g.standard(5, 5), NO);
        // By rule 3 a falling row alone has parts of 1: 20 of them, then 21.
        g = ofText("53;33000;03300;00332");
        g.rule(3);
        due(12, g.shape(5, 3, 1), 20);
        due(12, g.standard(5, 3), 1);
        g.put(5, 1, 3);
        due(12, g.shape(5, 3, 1), 21);
        due(12, g.standard(5, 3), NO);
    }

    private static void products() {
        GrowthGrid g = ofText("22;11;11");
        due(13, g.product(2, 2), 8);
        due(13, g.product(2, 1), 3);
        due(13, g.product(0, 2), 1);
        g.rule(3);
        due(13, g.product(2, 2), 12);
        for (int far : FAR) {
            due(13, g.product(far, 1), BAD);
            due(13, g.product(1, far), BAD);
        }
        g = ofText("55;11111;11111;11111;11111;11111");
        g.rule(1);
        due(13, g.product(5, 5), 7776);
        g = ofText("55;33333;00003;00003;00003;00003");
        g.rule(3);
        due(13, g.product(5, 5), 134217728);
        g = ofText("55;33332;33032;30300;30230;13100");
        g.rule(3);
        due(13, g.product(5, 5), 2123366400);
        g = ofText("55;33332;11331;11201;02311;30130");
        g.rule(3);
        due(13, g.product(5, 5), WIDE);
        g = ofText("55;33333;33333;33333;33333;33333");
        g.rule(3);
        due(13, g.product(5, 5), WIDE);
        g.rule(0);
        due(13, g.product(1, 5), 16);
    }

    private static void fillings() {
        GrowthGrid g = ofText("22;21;31");
        dueParts(14, g, 2, 1, 4);
        dueParts(14, g, 1, 2, 5);
        dueParts(14, g, 2, 2, 6, 1);
        int[] rightFirst = {1, 1, 1, 1, 2, 2, NOT}, topFirst = {1, 1, 1, 1, 1, 2, NOT};
        for (int j = 0; j < rightFirst.length; j++) {
            due(14, g.filling(0, 0, j), rightFirst[j]);
            due(14, g.filling(1, 0, j), topFirst[j]);
        }
        due(14, g.filling(0, 1, 0), 2);
        due(14, g.filling(1, 1, 0), 2);
        due(14, g.filling(0, 1, 1), NOT);
        due(14, g.filling(1, 2, 0), NOT);
        due(14, g.filling(0, 99, 99), NOT);
        for (int far : new int[] {-1, 100, Integer.MIN_VALUE, Integer.MAX_VALUE}) {
            due(14, g.filling(0, far, 0), BAD);
            due(14, g.filling(1, 0, far), BAD);
            due(14, g.filling(far, 0, 0), BAD);
        }
        due(14, g.filling(2, 0, 0), BAD);
        // C and R are unlike: RIGHT counts rows, TOP columns.
        g = ofText("51;00001");
        due(14, g.filling(0, 0, 0), 1);
        due(14, g.filling(1, 0, 0), 5);
        due(14, new GrowthGrid().filling(0, 0, 0), NOT);
    }

    private static void paths() {
        GrowthGrid g = ofText("32;010;201");
        // Steps: right, down, right, right, down: CORNERS 02, 12, 11, 21, 31, 30.
        int path = 0b10010;
        int[] sizes = {0, 2, 2, 2, 3, 0};
        for (int k = 0; k <= 5; k++) {
            due(15, g.along(path, k), sizes[k]);
        }
        due(15, g.along(0b11000, 2), 3);
        due(15, g.along(0b11000, 3), 4);
        due(15, g.along(0b00011, 2), 0);
        due(15, g.along(path, 6), BAD);
        for (int k : new int[] {-1, 32, 33, Integer.MIN_VALUE, Integer.MAX_VALUE}) {
            due(15, g.along(path, k), BAD);
        }
        int[] noPaths = {0, 1, 0b111, 0b11111, 0b110010, 0b100001, -1, Integer.MIN_VALUE, Integer.MAX_VALUE, 1 << 30 | 1};
        for (int p : noPaths) {
            due(15, g.along(p, 0), BAD);
        }
        g.grid(5, 5);
        due(15, g.along(0b1111100000, 10), 0);
        due(15, g.along(0b10000011110, 10), BAD);
    }

    private static void fittingRims() {
        GrowthGrid g = ofText("22;11;11");
        dueFits(g, 1, 0, 0, 0);
        g.rule(1);
        // TOP: (1, 1) and (2, 2); RIGHT: (2) and (2, 2).
        dueFits(g, 0, 1, 0, 0);
        g.rule(2);
        dueFits(g, 0, 0, 1, 0);
        g.rule(3);
        dueFits(g, 0, 0, 0, 1);
        g = ofText("21;11");
        g.rule(1);
        dueFits(g, 1, 1, 0, 0);
        g.rule(2);
        dueFits(g, 0, 0, 1, 1);
        for (int far : new int[] {-1, 4, Integer.MIN_VALUE, Integer.MAX_VALUE}) {
            due(16, g.fits(far), BAD);
        }
        dueFits(new GrowthGrid(), 1, 1, 1, 1);
        g.word(10);
        dueFits(g, 1, 1, 1, 1);
    }

    private static void dueFits(GrowthGrid g, int... want) {
        for (int q = 0; q < 4; q++) {
            due(16, g.fits(q), want[q]);
        }
    }

    private static void backChanges() {
        GrowthGrid g = ofText("22;12;30");
        due(17, g.back(0), 0);
        dueGrid(17, g, "22;12;30");
        g = ofText("11;3");
        g.rule(1);
        due(17, g.back(1), 1);
        due(17, g.cell(1, 1), 1);
        due(17, g.count(2), 1);
        due(17, g.back(0), 0);
        due(17, g.count(2), 0);
        due(17, g.undo(), 3);
        due(17, g.count(2), 1);
        due(17, g.undo(), 2);
        due(17, g.cell(1, 1), 3);
        // By rule 2 two parts of 1, which by rule 3 have the same cells, but by rule 1 none.
        g = ofText("21;11");
        g.rule(2);
        due(17, g.back(3), 0);
        due(17, g.count(2), 3);
        due(17, g.back(1), STATE);
        due(17, g.count(2), 3);
        g = ofText("22;11;11");
        g.rule(3);
        due(17, g.back(3), 0);
        dueGrid(17, g, "22;11;11");
        for (int far : new int[] {-1, 4, Integer.MIN_VALUE, Integer.MAX_VALUE}) {
            due(17, g.back(far), BAD);
        }
        // One 1 in each column and row fits all rules.
        g = ofText("22;10;01");
        for (int q = 0; q < 4; q++) {
            due(17, g.back(q), 0);
        }
        backToOtherCells();
    }

    private static void backToOtherCells() {
        GrowthGrid g = ofText("22;01;11");
        g.rule(1);
        dueParts(17, g, 1, 2, 1);
        dueParts(17, g, 2, 1, 2);
        dueParts(17, g, 2, 2, 2, 1);
        due(17, g.fits(0), 1);
        // By rule 0 CELL (2, 2): c is 1 behind PART 1, PART 0 of OLD then 0, and m 2 less 2.
        due(17, g.back(0), 4);
        dueGrid(17, g, "22;10;02");
        dueParts(17, g, 1, 2, 1);
        dueParts(17, g, 2, 1, 2);
        dueParts(17, g, 2, 2, 2, 1);
        due(17, g.count(2), 0);
    }

    private static void backRefused() {
        GrowthGrid g = ofText("44;1111;1011;1001;1000");
        g.rule(2);
        int before = g.part(3, 3, 0);
        due(17, g.fits(0), 1);
        due(17, g.back(0), STATE);
        due(17, g.count(2), 2);
        due(17, g.count(3), 2);
        dueGrid(17, g, "44;1111;1011;1001;1000");
        due(17, g.part(3, 3, 0), before);
        due(17, g.shape(3, 3, 0), 4);
        due(17, g.shape(1, 1, 0), 1);
        due(17, g.undo(), 1);
        due(17, g.again(), 0);
    }

    // ---- rows of cells, corners in order

    private static void longestRows() {
        GrowthGrid g = ofText("33;012;300;023");
        int[] sums = {7, 5, 8, 6}, cells = {3, 2, 3, 2};
        for (int kind = 0; kind < 4; kind++) {
            due(18, g.longest(kind, 0), sums[kind]);
            due(18, g.longest(kind, 1), cells[kind]);
        }
        g.rule(1);
        due(18, g.longest(0, 0), 7);
        for (int far : new int[] {-1, 4, Integer.MIN_VALUE, Integer.MAX_VALUE}) {
            due(18, g.longest(far, 0), BAD);
            due(18, g.longest(0, far), BAD);
        }
        due(18, g.longest(0, 2), BAD);
        due(18, new GrowthGrid().longest(0, 0), 0);
        due(18, new GrowthGrid().longest(3, 1), 0);
        // Straight rows rise and fall, but are neither steep nor sheer.
        g = ofText("51;12321");
        int[] straight = {9, 3, 9, 3};
        for (int kind = 0; kind < 4; kind++) {
            due(18, g.longest(kind, 0), straight[kind]);
        }
        g = ofText("12;3;2");
        int[] upright = {5, 3, 5, 3};
        for (int kind = 0; kind < 4; kind++) {
            due(18, g.longest(kind, 0), upright[kind]);
        }
        due(18, ofText("55;33333;33333;33333;33333;33333").longest(2, 0), 27);
    }

    private static void unions() {
        GrowthGrid g = new GrowthGrid();
        g.grid(5, 5);
        g.word(24153);
        // Steep: 245 or 243 ..; 2 4 5 and 1 3 are all five. Sheer: 2 1, 4 1, 4 3, 5 3.
        int[] steep = {3, 5, 5, 5, 5}, sheer = {2, 4, 5, 5, 5};
        for (int q = 0; q < 4; q++) {
            g.rule(q);
            for (int k = 1; k <= 5; k++) {
                due(19, g.union(k, 1), steep[k - 1]);
                due(19, g.union(k, 3), sheer[k - 1]);
            }
        }
        g.word(12345);
        due(19, g.union(1, 1), 5);
        due(19, g.union(1, 3), 1);
        due(19, g.union(4, 3), 4);
        for (int far : new int[] {0, 6, -1, Integer.MIN_VALUE, Integer.MAX_VALUE}) {
            due(19, g.union(far, 1), BAD);
            due(19, g.union(1, far), BAD);
        }
        due(19, g.union(1, 2), BAD);
        due(19, ofText("22;00;02").union(1, 1), STATE);
        due(19, ofText("22;00;11").union(1, 1), STATE);
        due(19, ofText("22;01;01").union(1, 3), STATE);
        due(19, ofText("22;01;02").union(0, 3), BAD);
        due(19, ofText("22;01;02").union(1, 0), BAD);
        due(19, new GrowthGrid().union(5, 3), 0);
        due(19, ofText("22;10;01").union(5, 3), 2);
    }

    private static void orderOfCorners() {
        GrowthGrid g = ofText("22;00;10");
        int[] order = {11, 12, 21, 22, 0, 1, 2, 10, 20};
        for (int k = 0; k < order.length; k++) {
            due(20, g.corner(k), order[k]);
        }
        due(20, g.corner(9), NOT);
        due(20, g.corner(Integer.MAX_VALUE), NOT);
        due(20, g.corner(-1), BAD);
        due(20, g.corner(Integer.MIN_VALUE), BAD);
        // By rule 1 (2, 1) has the shape 2, (1, 2) 1, 1: the greater part is ahead.
        g = ofText("22;11;11");
        g.rule(1);
        int[] byRule1 = {22, 21, 12, 11, 0, 1, 2, 10, 20};
        for (int k = 0; k < byRule1.length; k++) {
            due(20, g.corner(k), byRule1[k]);
        }
        g.rule(2);
        due(20, g.corner(1), 12);
        due(20, g.corner(2), 21);
        g = new GrowthGrid();
        g.grid(5, 1);
        due(20, g.corner(11), 51);
        due(20, g.corner(12), NOT);
        g.grid(5, 5);
        due(20, g.corner(35), 55);
        due(20, g.corner(36), NOT);
    }

    private static void unlikeShapes() {
        GrowthGrid g = ofText("22;11;11");
        due(21, g.unlike(0), 4);
        due(21, g.unlike(1), 5);
        g.rule(1);
        due(21, g.unlike(0), 5);
        due(21, g.unlike(1), 5);
        g.grid(3, 3);
        due(21, g.unlike(0), 1);
        due(21, g.unlike(1), 16);
        g.grid(4, 4);
        g.put(1, 1, 1);
        due(21, g.unlike(0), 2);
        due(21, g.unlike(1), 16);
        for (int far : new int[] {-1, 2, Integer.MIN_VALUE, Integer.MAX_VALUE}) {
            due(21, g.unlike(far), BAD);
        }
    }

    // ---- deeds, texts

    private static void undoneAndAgain() {
        GrowthGrid g = new GrowthGrid();
        for (int k = 1; k <= 10; k++) {
            g.put(1, 1, k % 4);
        }
        due(22, g.count(3), 8);
        for (int k = 9; k >= 2; k--) {
            due(22, g.undo(), k - 2);
            due(22, g.cell(1, 1), k % 4);
            due(23, g.count(4), 10 - k);
        }
        due(22, g.undo(), STATE);
        due(22, g.cell(1, 1), 2);
        for (int k = 3; k <= 10; k++) {
            due(23, g.again(), 10 - k);
            due(23, g.cell(1, 1), k % 4);
        }
        due(23, g.again(), STATE);
        due(22, g.undo(), 7);
        due(22, g.undo(), 6);
        due(23, g.again(), 1);
        g.put(1, 1, g.cell(1, 1));
        due(23, g.count(4), 0);
        due(23, g.again(), STATE);
        due(22, g.undo(), 7);
        due(22, g.cell(1, 1), 1);
        due(22, g.undo(), 6);
        due(22, g.cell(1, 1), 0);
    }

    /** Each state is unlike all others, so that one kept in the place of another is seen. */
    private static void manyDeeds() {
        for (int deeds = 7; deeds <= 30; deeds++) {
            GrowthGrid g = new GrowthGrid();
            g.grid(5, 5);
            for (int k = 1; k < deeds; k++) {
                g.word(wordOf(k));
            }
            for (int round = 0; round < 2; round++) {
                int kept = Math.min(8, deeds);
                for (int k = 1; k <= kept; k++) {
                    due(22, g.undo(), kept - k);
                    due(22, g.spelled(), spelledBehind(deeds - k));
                }
                due(22, g.undo(), STATE);
                for (int k = 1; k <= kept; k++) {
                    due(23, g.again(), kept - k);
                    due(23, g.spelled(), spelledBehind(deeds - kept + k));
                }
                due(23, g.again(), STATE);
            }
        }
    }

    private static int spelledBehind(int deeds) {
        return wordOf(Math.max(0, deeds - 1));
    }

    private static int wordOf(int k) {
        return 10 * (k / 6) + k % 6;
    }

    private static void everyDeed() {
        GrowthGrid g = ofText("32;012;300");
        g.rule(3);
        g.rule(0);
        g.grid(3, 2);
        g.word(121);
        g.turn(0);
        g.back(2);
        due(22, g.count(3), 7);
        due(22, g.undo(), 6);
        due(22, g.count(2), 0);
        dueGrid(22, g, "23;10;01;10");
        due(22, g.undo(), 5);
        dueGrid(22, g, "32;010;101");
        due(22, g.undo(), 4);
        dueGrid(22, g, "32;000;000");
        due(22, g.undo(), 3);
        dueGrid(22, g, "32;012;300");
        due(22, g.shape(3, 2, 0), 6);
        due(22, g.undo(), 2);
        due(22, g.count(2), 3);
        due(22, g.undo(), 1);
        due(22, g.undo(), 0);
        dueGrid(22, g, "33;000;000;000");
        due(23, g.again(), 6);
        dueGrid(23, g, "32;012;300");
        due(23, g.shape(3, 2, 0), 6);
        due(23, g.again(), 5);
        due(23, g.count(2), 3);
        due(23, g.again(), 4);
        due(23, g.again(), 3);
        due(23, g.again(), 2);
        due(23, g.again(), 1);
        dueGrid(23, g, "23;10;01;10");
        due(23, g.again(), 0);
        due(23, g.count(2), 2);
    }

    private static void nothingElseIsADeed() {
        GrowthGrid g = new GrowthGrid();
        g.put(1, 1, 1);
        g.put(1, 1, 2);
        g.undo();
        g.put(9, 1, 1);
        g.put(1, 1, 4);
        g.grid(0, 1);
        g.rule(4);
        g.word(-1);
        g.turn(3);
        g.back(4);
        feed(g, "33");
        g.read();
        g.feed(1, 1);
        g.wipe();
        g.hold(0, 1, 1);
        g.row(1, 3);
        g.set(1, 0, 3);
        g.drop(1);
        g.image();
        due(22, g.count(3), 1);
        due(23, g.count(4), 1);
        due(23, g.again(), 0);
        due(23, g.cell(1, 1), 2);
        due(22, g.undo(), 1);
        // back() that does not fit isn't one, either.
        g = ofText("22;11;11");
        g.undo();
        g.again();
        due(17, g.back(1), STATE);
        due(22, g.count(3), 1);
        // Those that leave all as it was are deeds, though.
        g.rule(0);
        g.put(1, 1, 1);
        g.turn(0);
        g.back(0);
        due(22, g.count(3), 5);
    }

    private static void fedTape() {
        GrowthGrid g = new GrowthGrid();
        due(24, g.feed(0x31313b32, 4), 4);
        due(24, g.feed(0x7fffff00, 1), 5);
        due(26, g.read(), -1004);
        due(24, g.feed(0x3131, 2), 2);
        due(24, g.feed(0xffff3b33, 2), 4);
        due(26, g.read(), 1);
        due(26, g.cell(1, 1), 3);
        due(24, g.feed(0x313131, 3), 3);
        due(25, g.wipe(), 3);
        due(25, g.count(5), 0);
        due(25, g.wipe(), 0);
        for (int n : new int[] {0, -1, 5, Integer.MIN_VALUE, Integer.MAX_VALUE}) {
            due(24, g.feed(1, n), BAD);
        }
        for (int k = 1; k <= 14; k++) {
            due(24, g.feed(-1, 4), 4 * k);
        }
        due(24, g.feed(0, 3), 59);
        due(24, g.feed(0, 2), FULL);
        due(24, g.feed(0, 4), FULL);
        due(24, g.feed(0, 5), BAD);
        due(24, g.count(5), 59);
        due(24, g.feed(0, 1), 60);
        due(24, g.feed(0, 1), FULL);
        due(25, g.wipe(), 60);
        due(24, g.feed(0, 1), 1);
    }

    private static void readTexts() {
        GrowthGrid g = new GrowthGrid();
        g.rule(2);
        due(26, readText(g, "32;012;300"), 3);
        dueGrid(26, g, "32;012;300");
        due(26, g.cell(1, 1), 3);
        due(26, g.cell(3, 2), 2);
        due(26, g.count(2), 2);
        due(26, g.count(5), 0);
        due(26, g.count(3), 2);
        due(26, readText(g, "11;0"), 0);
        due(26, readText(g, "55;33333;33333;33333;33333;33333"), 25);
        due(26, g.count(6), 75);
        due(26, readText(g, "15;1;2;3;0;1"), 4);
        dueGrid(26, g, "15;1;2;3;0;1");
        due(26, readText(g, "51;12301"), 4);
        due(26, g.cell(5, 1), 1);
    }

    private static void faults() {
        GrowthGrid g = ofText("32;012;300");
        int deeds = g.count(3);
        String[] texts = {"", "0", "6", ";", "3", "30", "36", "3;", "32", "32;", "32,", "320", "32;4", "32;012", "32;0123",
            "32;012;30", "32;012;304", "32;012;300;", "32;012;3000", "11;00", "11;4", "11;;", "\u00b1"};
        int[] places = {0, 0, 0, 0, 1, 1, 1, 1, 2, 3, 2, 2, 3, 6, 6, 9, 9, 10, 10, 4, 3, 3, 0};
        for (int k = 0; k < texts.length; k++) {
            due(26, readText(g, texts[k]), -1000 - places[k]);
            due(26, g.count(5), 0);
        }
        due(26, readText(g, "55;33333;33333;33333;33333;33333" + "0".repeat(28)), -1032);
        due(26, readText(g, "55;33333;33333;33333;33333;3333"), -1031);
        dueGrid(26, g, "32;012;300");
        due(26, g.count(3), deeds);
    }

    // ---- holders, the image

    private static void heldShapes() {
        GrowthGrid g = ofText("22;11;11");
        due(27, g.hold(0, 2, 2), 4);
        due(27, g.hold(5, 2, 1), 2);
        due(27, g.hold(1, 0, 0), 0);
        g.grid(1, 1);
        g.rule(3);
        due(30, g.was(0, 0), 3);
        due(30, g.was(0, 1), 1);
        due(30, g.was(0, 2), 0);
        due(30, g.was(0, 99), 0);
        due(30, g.was(5, 0), 2);
        due(30, g.was(2, 0), NOTHING);
        due(30, g.was(2, 100), BAD);
        due(29, g.taken(0, 0), 4);
        due(29, g.taken(0, 1), KIND);
        due(29, g.taken(0, 2), 2);
        due(29, g.taken(5, 0), 2);
        due(29, g.taken(5, 1), 2);
        due(29, g.taken(5, 2), KIND);
        due(29, g.taken(1, 0), 0);
        due(29, g.taken(1, 1), 0);
        due(29, g.taken(1, 2), KIND);
        due(29, g.taken(2, 0), NOTHING);
        g.row(2, 4);
        for (int kind = 0; kind <= 2; kind++) {
            due(29, g.taken(2, kind), KIND);
        }
        due(30, g.was(2, 0), KIND);
        for (int far : FAR) {
            due(27, g.hold(far, 0, 0), BAD);
            due(27, g.hold(0, far, 0), BAD);
            due(27, g.hold(0, 0, far), BAD);
            due(28, g.drop(far), BAD);
            due(29, g.taken(far, 0), BAD);
            due(29, g.taken(3, far), BAD);
            due(30, g.was(far, 0), BAD);
        }
        due(29, g.taken(3, 3), BAD);
        due(30, g.was(0, -1), BAD);
        due(27, g.hold(0, 2, 2), BAD);
        due(28, g.drop(0), 2);
        due(28, g.drop(0), 0);
        due(28, g.drop(5), 1);
        due(28, g.drop(1), 1);
        due(28, g.drop(2), 3);
        due(30, g.was(0, 0), NOTHING);
        due(29, g.taken(5, 1), NOTHING);
        due(27, g.hold(0, 1, 1), 0);
        due(27, g.hold(2, 1, 1), 0);
        due(28, g.drop(2), 1);
    }

    private static void heldRows() {
        GrowthGrid g = ofText("22;11;11");
        due(31, g.row(0, 30), 30);
        due(32, g.set(0, 29, Integer.MIN_VALUE), 1);
        due(32, g.set(0, 0, Integer.MAX_VALUE), 1);
        due(33, g.get(0, 29), Integer.MIN_VALUE);
        due(33, g.get(0, 0), Integer.MAX_VALUE);
        due(33, g.get(0, 1), 0);
        due(32, g.set(0, 30, 1), NO_PLACE);
        due(33, g.get(0, 30), NO);
        due(31, g.row(0, 31), BAD);
        due(31, g.row(0, -1), BELOW);
        due(31, g.row(0, Integer.MIN_VALUE), BELOW);
        due(31, g.row(0, Integer.MAX_VALUE), BAD);
        due(31, g.row(6, -1), BAD);
        due(31, g.row(-1, 3), BAD);
        due(33, g.get(0, 0), Integer.MAX_VALUE);
        due(31, g.row(0, 2), 2);
        due(33, g.get(0, 0), 0);
        due(32, g.set(0, 2, 1), NO_PLACE);
        due(32, g.set(0, -1, 1), NO_PLACE);
        due(32, g.set(0, Integer.MIN_VALUE, 1), NO_PLACE);
        due(33, g.get(0, -1), NO);
        due(33, g.get(0, 2), NO);
        due(31, g.row(1, 0), 0);
        due(32, g.set(1, 0, 1), NO_PLACE);
        due(28, g.drop(1), 3);
        due(32, g.set(1, 0, 1), NOTHING);
        due(33, g.get(1, 0), NO);
        g.hold(1, 2, 2);
        due(32, g.set(1, 0, 1), KIND);
        due(33, g.get(1, 0), NO);
        for (int far : FAR) {
            due(32, g.set(far, 0, 0), BAD);
            due(33, g.get(far, 0), NO);
        }
        g.row(0, 30);
        due(33, g.get(0, 29), 0);
        g.hold(0, 2, 2);
        due(30, g.was(0, 0), 3);
    }

    private static void judged() {
        GrowthGrid g = ofText("22;11;11");
        g.row(0, 2);
        due(34, g.judge(0, 2, 2), 0);
        due(34, g.judge(0, 0, 2), NOT);
        g.set(0, 0, 3);
        due(34, g.judge(0, 2, 2), 1);
        g.set(0, 1, 1);
        due(34, g.judge(0, 2, 2), NOT);
        due(34, g.judge(0, 2, 1), 0);
        due(34, g.judge(0, 2, 0), 0);
        g.rule(1);
        due(34, g.judge(0, 2, 2), 0);
        g.rule(0);
        g.row(1, 1);
        g.set(1, 0, 3);
        due(34, g.judge(1, 2, 2), 1);
        g.row(1, 0);
        due(34, g.judge(1, 2, 2), 0);
        due(34, g.judge(1, 0, 0), NOT);
        g.row(2, 30);
        g.set(2, 0, 3);
        g.set(2, 1, 1);
        due(34, g.judge(2, 2, 2), NOT);
        g.set(2, 29, -1);
        due(34, g.judge(2, 2, 2), 29);
        due(34, g.judge(3, 2, 2), NOTHING);
        g.hold(3, 2, 2);
        due(34, g.judge(3, 2, 2), KIND);
        for (int far : FAR) {
            due(34, g.judge(far, 0, 0), BAD);
            due(34, g.judge(4, far, 0), BAD);
            due(34, g.judge(4, 0, far), BAD);
        }
    }

    private static void images() {
        GrowthGrid g = ofText("32;012;300");
        g.rule(3);
        due(35, g.image(), 3);
        due(35, g.count(3), 2);
        feed(g, "12");
        g.hold(0, 3, 2);
        g.grid(2, 2);
        g.rule(1);
        g.undo();
        due(36, g.restore(), 3);
        dueGrid(36, g, "32;012;300");
        due(36, g.count(2), 3);
        due(36, g.count(3), 0);
        due(36, g.count(4), 0);
        due(36, g.count(5), 2);
        due(36, g.taken(0, 0), 6);
        due(36, g.undo(), STATE);
        due(36, g.again(), STATE);
        due(36, g.shape(3, 2, 0), 6);
        g.put(1, 1, 0);
        due(36, g.restore(), 3);
        due(36, g.cell(1, 1), 3);
        g.put(1, 1, 0);
        due(35, g.image(), 2);
        g.put(1, 1, 1);
        due(36, g.restore(), 2);
        due(36, g.cell(1, 1), 0);
        // A refused one changes nothing.
        g = new GrowthGrid();
        g.put(1, 1, 1);
        g.put(1, 1, 2);
        g.undo();
        due(36, g.restore(), STATE);
        due(36, g.count(3), 1);
        due(36, g.count(4), 1);
        due(36, g.cell(1, 1), 1);
    }

    private static void counts() {
        GrowthGrid g = ofText("42;0123;3001");
        g.rule(2);
        g.rule(3);
        g.undo();
        g.feed(0, 3);
        int[] want = {4, 2, 2, 2, 1, 3, 10};
        for (int what = 0; what < want.length; what++) {
            due(37, g.count(what), want[what]);
        }
        for (int far : new int[] {-1, 7, Integer.MIN_VALUE, Integer.MAX_VALUE}) {
            due(37, g.count(far), BAD);
        }
    }
}
