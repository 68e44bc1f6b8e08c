/** The document sentence by sentence: the grid, its numbers, words and turns (promises 1 to 8). */
public final class GridSentencesTest extends Sentences {
    private static final int[] NO_SIDES = {0, -1, 6, 7, 33, 257, LEAST, GREATEST};

    public static void main(String[] args) {
        newObjects();
        constants();
        sides();
        newSides();
        numbers();
        cellsOfLongGrids();
        rules();
        wordsByDigits();
        wordsTooLong();
        wordsOfFewDigits();
        spelledGrids();
        turnedGrids();
        turnedTwice();
        end();
    }

    private static void newObjects() {
        says("Three COLUMNS and ROWS, all NUMBERS 0, RULE 0.");
        GrowthGrid g = new GrowthGrid();
        due(stateOf(g), "33;000;000;000 0 0 0 0 0 []" + " -11,-11,-9223372036854775808".repeat(6));
        due(g.restore(), STATE);

        says("All memory is the class's own.");
        GrowthGrid other = new GrowthGrid();
        g.put(1, 1, 3);
        g.image();
        g.feed(1, 2);
        g.row(2, 3);
        g.set(2, 0, 7);
        g.hold(3, 1, 1);
        due(other.cell(1, 1), 0);
        due(other.shape(3, 3, 0), 0);
        due(other.count(3), 0);
        due(other.count(5), 0);
        due(other.restore(), STATE);
        due(other.drop(2), 0);
        due(other.drop(3), 0);
        other.row(2, 3);
        due(other.get(2, 0), 0);
        due(g.get(2, 0), 7);
        due(new GrowthGrid().cell(1, 1), 0);
    }

    private static void constants() {
        says("public static final int BAD = -1, NOT = -2, FULL = -3, STATE = -5, WIDE = -6;");
        due(GrowthGrid.BAD, -1);
        due(GrowthGrid.NOT, -2);
        due(GrowthGrid.FULL, -3);
        due(GrowthGrid.STATE, -5);
        due(GrowthGrid.WIDE, -6);

        says("public static final long NO = Long.MIN_VALUE;");
        due(GrowthGrid.NO, -9223372036854775808L);
    }

    private static void sides() {
        says("C, R 1 .. 5 each; 3 each at first");
        GrowthGrid g = new GrowthGrid();
        due(g.count(0), 3);
        due(g.count(1), 3);
        due(g.grid(1, 1), 33);
        due(g.grid(1, 5), 11);
        due(g.grid(5, 1), 15);
        due(g.grid(5, 5), 51);
        due(g.grid(2, 4), 55);
        due(g.count(0), 2);
        due(g.count(1), 4);
        g.put(2, 4, 3);
        String before = stateOf(g);
        for (int no : NO_SIDES) {
            due(g.grid(no, 3), BAD);
            due(g.grid(3, no), BAD);
            due(g.grid(no, no), BAD);
        }
        due(stateOf(g), before);
    }

    private static void newSides() {
        says("C and R become these, all NUMBERS 0: 10 times C as it was, plus R as it was.");
        GrowthGrid g = of("55;33333;33333;33333;33333;33333");
        due(g.grid(2, 3), 55);
        due(textOf(g), "23;00;00;00");
        // Nothing of the larger grid comes back.
        due(g.grid(5, 5), 23);
        due(textOf(g), "55;00000;00000;00000;00000;00000");
        due(g.shape(5, 5, 0), 0);
        due(g.count(6), 0);

        says("grid() keeps the RULE, also with the same C and R.");
        for (int rule = 0; rule <= 3; rule++) {
            g = of("23;01;20;03", rule);
            due(g.grid(2, 3), 23);
            due(g.count(2), rule);
            due(textOf(g), "23;00;00;00");
            due(g.grid(3, 2), 23);
            due(g.count(2), rule);
        }
    }

    private static void numbers() {
        says("has a NUMBER (0 .. 3; 0 at first)");
        GrowthGrid g = new GrowthGrid();
        for (int x = 1; x <= 3; x++) {
            for (int y = 1; y <= 3; y++) {
                due(g.cell(x, y), 0);
            }
        }
        due(g.put(1, 1, 3), 0);
        due(g.put(1, 1, 0), 3);
        due(g.put(1, 1, 2), 0);
        String before = stateOf(g);
        for (int v : new int[] {-1, 4, 5, 256, LEAST, GREATEST}) {
            due(g.put(1, 1, v), BAD);
        }
        due(stateOf(g), before);

        says("The NUMBER of a CELL becomes v (0 .. 3): what it was.");
        due(g.put(1, 1, 2), 2);
        due(g.put(1, 1, 1), 2);
        due(g.cell(1, 1), 1);
        due(g.put(3, 3, 3), 0);
        due(textOf(g), "33;003;000;100");
    }

    private static void cellsOfLongGrids() {
        says("there is no such CELL");
        GrowthGrid g = of("52;10002;30001");
        due(g.cell(1, 1), 3);
        due(g.cell(5, 1), 1);
        due(g.cell(1, 2), 1);
        due(g.cell(5, 2), 2);
        String before = stateOf(g);
        int[][] none = {{0, 1}, {1, 0}, {0, 0}, {6, 1}, {1, 3}, {2, 5}, {6, 3}, {-1, 1}, {1, -1}, {LEAST, 1},
            {1, LEAST}, {GREATEST, 1}, {1, GREATEST}};
        for (int[] at : none) {
            due(g.cell(at[0], at[1]), BAD);
            due(g.put(at[0], at[1], 1), BAD);
        }
        due(stateOf(g), before);
        g = of("25;00;00;00;00;02");
        due(g.cell(2, 1), 2);
        due(g.cell(2, 5), 0);
        due(g.cell(3, 1), BAD);
        due(g.cell(3, 5), BAD);
        due(g.put(3, 1, 1), BAD);
        due(g.cell(2, 6), BAD);
    }

    private static void rules() {
        says("RULE: 0 .. 3 (0 at first)");
        GrowthGrid g = new GrowthGrid();
        due(g.count(2), 0);
        due(g.rule(3), 0);
        due(g.rule(0), 3);
        due(g.rule(2), 0);
        String before = stateOf(g);
        for (int no : new int[] {-1, 4, 5, LEAST, GREATEST}) {
            due(g.rule(no), BAD);
        }
        due(stateOf(g), before);

        says("RULE becomes another (or the same) one: what it was.");
        due(g.rule(2), 2);
        due(g.count(2), 2);
        due(g.rule(1), 2);
        due(g.count(2), 1);
        // NUMBERS stay, also those that are no longer worth what they were.
        g = of("21;32", 1);
        g.rule(3);
        due(textOf(g), "21;32");
    }

    private static void wordsByDigits() {
        says("digit x of it, x 1 .. C, is (w divided by 10 to the power of (C less x), cut) modulo 10");
        GrowthGrid g = new GrowthGrid();
        g.grid(5, 5);
        due(g.word(13524), 5);
        due(textOf(g), "55;00100;00001;01000;00010;10000");
        due(g.word(50000), 1);
        due(textOf(g), "55;10000;00000;00000;00000;00000");

        says("in each COLUMN x the CELL whose ROW is that digit has NUMBER 1, all others 0 (digit 0: all 0)");
        g = of("32;333;333");
        due(g.word(102), 2);
        due(textOf(g), "32;001;100");
        due(g.word(0), 0);
        due(textOf(g), "32;000;000");

        says("The GRID as by a WORD: how many CELLS have NUMBER 1.");
        due(g.word(222), 3);
        due(g.word(20), 1);
        due(g.count(6), 1);
    }

    private static void wordsTooLong() {
        says("it has no more than C digits, each 0 .. R");
        GrowthGrid g = of("32;100;023");
        String before = stateOf(g);
        int[] none = {3, 30, 300, 9, 223, 232, 322, 1000, 2222, 10000, 1000000000, 2000000000, 2147483647, 1111111111};
        for (int w : none) {
            due(g.word(w), BAD);
        }
        due(stateOf(g), before);
        due(g.word(222), 3);
        due(g.word(111), 3);
        g.grid(5, 5);
        due(g.word(55555), 5);
        before = stateOf(g);
        for (int w : new int[] {55556, 65555, 55655, 100000, 155555, 1055555, 6, 9, 2000000000}) {
            due(g.word(w), BAD);
        }
        due(stateOf(g), before);
        g.grid(1, 1);
        due(g.word(1), 1);
        due(g.word(2), BAD);
        due(g.word(10), BAD);
        due(g.word(11), BAD);
        due(g.word(0), 0);
        g.grid(1, 5);
        due(g.word(5), 1);
        due(g.word(6), BAD);
        due(g.word(15), BAD);
    }

    private static void wordsOfFewDigits() {
        says("A WORD with fewer digits than C has 0 ahead; one below 0 is none.");
        GrowthGrid g = of("42;3333;3333");
        due(g.word(21), 2);
        due(textOf(g), "42;0010;0001");
        due(g.word(1), 1);
        due(textOf(g), "42;0000;0001");
        String before = stateOf(g);
        for (int w : new int[] {-1, -10, -21, -1111, LEAST, -GREATEST}) {
            due(g.word(w), BAD);
        }
        due(stateOf(g), before);
    }

    private static void spelledGrids() {
        says("in each COLUMN one CELL at most has a NUMBER that is not 0, and that is 1: by that WORD");
        due(of("42;1000;0101").spelled(), 2101);
        due(of("42;0000;0001").spelled(), 1);
        due(of("42;0000;1000").spelled(), 1000);
        due(of("55;11111;00000;00000;00000;00000").spelled(), 55555);
        due(of("33;000;111;000").spelled(), 222);
        due(of("42;1001;0101").spelled(), NOT);
        due(of("42;1000;1000").spelled(), NOT);
        due(of("13;1;0;1").spelled(), NOT);
        due(of("11;1").spelled(), 1);

        says("SPELLED is 0 where there are no NUMBERS, and NOT where a NUMBER is above 1.");
        due(new GrowthGrid().spelled(), 0);
        due(of("55;00000;00000;00000;00000;00000", 3).spelled(), 0);
        due(of("11;0").spelled(), 0);
        due(of("11;2").spelled(), NOT);
        due(of("11;3").spelled(), NOT);
        due(of("33;000;010;002").spelled(), NOT);
        // By rules 1 and 2 the worth is 1, but the number is above it.
        due(of("33;000;010;002", 1).spelled(), NOT);
        due(of("22;20;10").spelled(), NOT);
        due(of("22;10;20").spelled(), NOT);

        says("The WORD by which THE GRID is SPELLED.");
        GrowthGrid g = new GrowthGrid();
        g.grid(4, 5);
        for (int w : new int[] {0, 5, 50, 505, 5555, 1234, 4300}) {
            g.word(w);
            due(g.spelled(), w);
        }
    }

    private static void turnedGrids() {
        says("how 0: CELL (x, y) is CELL (y, x) then, C and R change places");
        GrowthGrid g = of("32;012;300", 2);
        due(g.turn(0), 3);
        due(textOf(g), "23;02;01;30");
        due(g.count(2), 2);
        g = of("51;12301");
        due(g.turn(0), 4);
        due(textOf(g), "15;1;0;3;2;1");
        due(g.turn(0), 4);
        due(textOf(g), "51;12301");

        says("1: CELL (x, y) is CELL (C plus 1 less x, y) then");
        g = of("32;012;300", 1);
        due(g.turn(1), 3);
        due(textOf(g), "32;210;003");
        due(g.count(2), 1);
        g = of("15;1;2;3;0;1");
        due(g.turn(1), 4);
        due(textOf(g), "15;1;2;3;0;1");

        says("2: CELL (x, y) is CELL (x, R plus 1 less y) then");
        g = of("32;012;300", 3);
        due(g.turn(2), 3);
        due(textOf(g), "32;300;012");
        due(g.count(2), 3);
        g = of("51;12301");
        due(g.turn(2), 4);
        due(textOf(g), "51;12301");

        says("is CELL (x, R plus 1 less y) then: how many CELLS have a NUMBER above 0. BAD.");
        due(new GrowthGrid().turn(0), 0);
        due(of("11;3").turn(1), 1);
        g = of("55;33333;33333;33333;33333;33333");
        due(g.turn(2), 25);
        g = of("32;012;300");
        String before = stateOf(g);
        for (int no : new int[] {-1, 3, 4, LEAST, GREATEST}) {
            due(g.turn(no), BAD);
        }
        due(stateOf(g), before);
    }

    /** The shapes are those of the turned grid, and a second turn is the first one back. */
    private static void turnedTwice() {
        says("THE GRID is turned");
        for (int how = 0; how <= 2; how++) {
            GrowthGrid g = of("43;0120;3001;0230");
            String before = textOf(g);
            g.shape(4, 3, 0);
            g.turn(how);
            due(g.shape(g.count(0), g.count(1), 0), 12);
            g.turn(how);
            due(textOf(g), before);
        }
        // Rising rows are falling ones behind a turn.
        GrowthGrid g = of("22;01;10");
        due(shapeOf(g, 2, 2), "2");
        g.turn(1);
        due(shapeOf(g, 2, 2), "1 1");
        g.turn(2);
        due(shapeOf(g, 2, 2), "2");
    }
}
