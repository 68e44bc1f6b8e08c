/** The document sentence by sentence: holders, rows, the image, counts (promises 27 to 37). */
public final class HolderSentencesTest extends Sentences {
    private static final String ALL_3 = "55;33333;33333;33333;33333;33333";
    private static final int[] NO_HOLDERS = {-1, 6, 7, LEAST, GREATEST};

    public static void main(String[] args) {
        holdersAtFirst();
        noHolders();
        heldAsItWas();
        flatAndTall();
        takenKinds();
        partsThatWere();
        rowsOfInts();
        rowsRefused();
        rowPlaces();
        wrongKindsOfRows();
        firstOfSeveral();
        judgedRows();
        judgedRowsOfOtherLengths();
        judgeRefused();
        dropped();
        keptImages();
        imageKeepsNoMore();
        imageRefused();
        counts();
        end();
    }

    private static void holdersAtFirst() {
        says("HOLDERS 0 .. 5 hold nothing (at first)");
        GrowthGrid g = new GrowthGrid();
        for (int h = 0; h <= 5; h++) {
            due(g.drop(h), 0);
            for (int kind = 0; kind <= 2; kind++) {
                due(g.taken(h, kind), NOTHING);
            }
            due(g.was(h, 0), NOTHING);
            due(g.set(h, 0, 1), NOTHING);
            due(g.get(h, 0), NO);
            due(g.judge(h, 1, 1), NOTHING);
        }
        // Each holds its own.
        for (int h = 0; h <= 5; h++) {
            due(g.row(h, h + 1), h + 1);
            due(g.set(h, h, 10 + h), 1);
        }
        for (int h = 0; h <= 5; h++) {
            due(g.get(h, h), 10 + h);
            due(g.get(h, h + 1), NO);
        }
        due(g.drop(3), 3);
        due(g.get(2, 2), 12);
        due(g.get(4, 4), 14);
    }

    private static void noHolders() {
        says("there is no such CELL, CORNER, PATH, WORD, HOLDER");
        GrowthGrid g = new GrowthGrid();
        g.row(0, 1);
        g.hold(5, 1, 1);
        String before = stateOf(g);
        for (int no : NO_HOLDERS) {
            due(g.hold(no, 1, 1), BAD);
            due(g.drop(no), BAD);
            due(g.taken(no, 0), BAD);
            due(g.was(no, 0), BAD);
            due(g.row(no, 1), BAD);
            due(g.set(no, 0, 1), BAD);
            due(g.get(no, 0), NO);
            due(g.judge(no, 1, 1), BAD);
        }
        due(stateOf(g), before);
    }

    // ---- shapes

    private static void heldAsItWas() {
        says("a SHAPE as it was at a CORNER");
        GrowthGrid g = of("33;110;101;011", 3);
        due(g.hold(0, 3, 3), 6);
        g.put(1, 1, 3);
        g.rule(0);
        g.grid(1, 1);
        due(g.was(0, 0), 2);
        due(g.was(0, 1), 2);
        due(g.was(0, 2), 1);
        due(g.was(0, 3), 1);
        due(g.was(0, 4), 0);
        due(g.taken(0, 0), 6);
        due(g.taken(0, 2), 4);

        says("A HOLDER holds the SHAPE of a CORNER as it is: its SIZE. BAD.");
        g = of(ALL_3, 3);
        due(g.hold(0, 5, 5), 75);
        due(g.taken(0, 2), 27);
        due(g.hold(0, 0, 5), 0);
        due(g.was(0, 0), 0);
        due(g.hold(0, 1, 1), 3);
        due(g.taken(0, 0), 3);
        due(g.was(0, 2), 1);
        due(g.was(0, 3), 0);
        String before = stateOf(g);
        int[][] none = {{6, 0}, {0, 6}, {-1, 0}, {0, -1}, {LEAST, 0}, {0, LEAST}, {GREATEST, 0}, {0, GREATEST}};
        for (int[] at : none) {
            due(g.hold(0, at[0], at[1]), BAD);
        }
        due(stateOf(g), before);
        // What a holder held before is gone, whatever it was.
        g.row(1, 4);
        due(g.hold(1, 2, 1), 6);
        due(g.get(1, 0), NO);
        due(g.drop(1), 2);
    }

    private static void flatAndTall() {
        says("(FLAT, if LENGTH is 1 at most, else TALL)");
        GrowthGrid g = of("22;11;11");
        g.hold(0, 0, 0);
        g.hold(1, 1, 1);
        g.hold(2, 2, 1);
        g.hold(3, 2, 2);
        due(g.drop(0), 1);
        due(g.drop(1), 1);
        due(g.drop(2), 1);
        due(g.drop(3), 2);
        g.rule(3);
        g.hold(2, 2, 1);
        due(g.drop(2), 2);
    }

    private static void takenKinds() {
        says("What is held is taken for: 0 a SHAPE: its SIZE; 1 a FLAT one: its PART 0; 2 a TALL one: its LENGTH.");
        GrowthGrid g = of("22;31;11");
        g.hold(0, 1, 2);
        due(g.taken(0, 0), 4);
        due(g.taken(0, 1), 4);
        due(g.taken(0, 2), KIND);
        g.hold(1, 2, 2);
        due(g.taken(1, 0), 6);
        due(g.taken(1, 1), KIND);
        due(g.taken(1, 2), 2);

        says("What a HOLDER holds, taken for a kind (0 .. 2). BAD; -11; -12 (a row, or a SHAPE of another kind).");
        g.row(2, 3);
        g.row(3, 0);
        for (int kind = 0; kind <= 2; kind++) {
            due(g.taken(2, kind), KIND);
            due(g.taken(3, kind), KIND);
            due(g.taken(4, kind), NOTHING);
        }
        for (int no : new int[] {-1, 3, 4, LEAST, GREATEST}) {
            for (int h = 0; h <= 5; h++) {
                due(g.taken(h, no), BAD);
            }
        }
    }

    private static void partsThatWere() {
        says("PART i (0 .. 99) of the SHAPE in a HOLDER. BAD; -11; -12 (a row).");
        GrowthGrid g = of("22;11;11");
        g.hold(0, 2, 2);
        due(g.was(0, 0), 3);
        due(g.was(0, 1), 1);
        due(g.was(0, 2), 0);
        due(g.was(0, 99), 0);
        g.row(1, 2);
        due(g.was(1, 0), KIND);
        due(g.was(1, 99), KIND);
        due(g.was(2, 0), NOTHING);
        due(g.was(2, 99), NOTHING);
        for (int no : new int[] {-1, 100, 101, LEAST, GREATEST}) {
            due(g.was(0, no), BAD);
            due(g.was(1, no), BAD);
            due(g.was(2, no), BAD);
        }
        g.drop(0);
        due(g.was(0, 0), NOTHING);
    }

    // ---- rows

    private static void rowsOfInts() {
        says("or a row of 0 .. 30 ints, 0 at first");
        GrowthGrid g = new GrowthGrid();
        for (int n = 0; n <= 30; n++) {
            due(g.row(0, n), n);
            for (int i = 0; i < Math.min(n, 3); i++) {
                due(g.get(0, i), 0);
            }
            if (n > 0) {
                due(g.get(0, n - 1), 0);
                due(g.set(0, n - 1, n), 1);
                due(g.get(0, n - 1), n);
            }
            due(g.get(0, n), NO);
            due(g.set(0, n, 1), NO_PLACE);
        }
        g.row(0, 30);
        for (int i = 0; i < 30; i++) {
            due(g.get(0, i), 0);
        }

        says("A HOLDER holds a row of n ints, all 0: n.");
        // One of the same length begins with 0 again.
        g.set(0, 29, 5);
        due(g.row(0, 30), 30);
        due(g.get(0, 29), 0);
        // What was set is no longer there in a shorter one that grows again.
        g.set(0, 29, 5);
        g.row(0, 3);
        g.row(0, 30);
        due(g.get(0, 29), 0);
        g.set(0, 2, 5);
        g.hold(0, 1, 1);
        g.row(0, 3);
        due(g.get(0, 2), 0);
        g.set(0, 2, 5);
        g.drop(0);
        g.row(0, 3);
        due(g.get(0, 2), 0);
    }

    private static void rowsRefused() {
        says("BAD: h, n above 30; -14: n below 0.");
        GrowthGrid g = of("22;11;11");
        g.row(0, 2);
        g.set(0, 0, 7);
        g.hold(1, 2, 2);
        String before = stateOf(g);
        for (int h = 0; h <= 2; h++) {
            for (int no : new int[] {31, 32, 100, GREATEST}) {
                due(g.row(h, no), BAD);
            }
            for (int no : new int[] {-1, -2, -30, LEAST}) {
                due(g.row(h, no), BELOW);
            }
        }
        for (int no : NO_HOLDERS) {
            due(g.row(no, -1), BAD);
            due(g.row(no, 31), BAD);
            due(g.row(no, 0), BAD);
        }
        due(stateOf(g), before);
        due(g.row(0, 30), 30);
        due(g.row(0, 0), 0);
    }

    private static void rowPlaces() {
        says("-13 a place that is not there");
        GrowthGrid g = new GrowthGrid();
        g.row(0, 4);
        for (int i = 0; i <= 3; i++) {
            due(g.set(0, i, i + 1), 1);
        }
        for (int no : new int[] {-1, 4, 5, 29, 30, 31, LEAST, GREATEST}) {
            due(g.set(0, no, 9), NO_PLACE);
            due(g.get(0, no), NO);
        }
        for (int i = 0; i <= 3; i++) {
            due(g.get(0, i), i + 1);
        }
        g.row(0, 0);
        due(g.set(0, 0, 1), NO_PLACE);
        due(g.get(0, 0), NO);

        says("Number i of a row becomes v: 1.");
        g.row(1, 1);
        for (int v : new int[] {LEAST, GREATEST, -1, 0, 1}) {
            due(g.set(1, 0, v), 1);
            due(g.get(1, 0), v);
        }
    }

    private static void wrongKindsOfRows() {
        says("Number i of a row becomes v: 1. BAD: h; -11; -12 (no row); -13.");
        GrowthGrid g = of("22;11;11");
        due(g.set(0, 0, 1), NOTHING);
        g.hold(0, 2, 2);
        due(g.set(0, 0, 1), KIND);
        due(g.was(0, 0), 3);
        g.hold(0, 0, 0);
        due(g.set(0, 0, 1), KIND);
        g.drop(0);
        due(g.set(0, 0, 1), NOTHING);
        g.row(0, 1);
        due(g.set(0, 1, 1), NO_PLACE);

        says("Number i of a row. NO: BAD: h; -11; -12 (no row); -13.");
        due(g.get(0, 0), 0);
        due(g.get(0, 1), NO);
        due(g.get(0, -1), NO);
        due(g.get(1, 0), NO);
        g.hold(1, 2, 2);
        due(g.get(1, 0), NO);
        due(g.get(6, 0), NO);
        due(g.get(-1, 0), NO);

        says("NO (the least long) is told by longs in place of all of these.");
        due(g.get(GREATEST, LEAST), Long.MIN_VALUE);
        due(g.standard(GREATEST, LEAST), Long.MIN_VALUE);
    }

    private static void firstOfSeveral() {
        says("Of several the first that the call's words name.");
        GrowthGrid g = of("22;20;01");
        // Nothing is there, and the number is not as told.
        due(g.taken(0, 3), BAD);
        due(g.was(0, 100), BAD);
        due(g.judge(0, 3, 0), BAD);
        // It is of another kind, and the place is not there.
        g.hold(0, 2, 2);
        due(g.set(0, 99, 1), KIND);
        due(g.set(1, 99, 1), NOTHING);
        due(g.judge(0, 3, 0), BAD);
        due(g.judge(0, 0, 3), BAD);
        g.row(2, 1);
        due(g.was(2, 100), BAD);
        due(g.taken(2, 3), BAD);
        due(g.set(6, 99, 1), BAD);
        due(g.row(6, -1), BAD);
        // There is no room, and the number is not as told.
        g.feed(0, 4);
        for (int k = 0; k < 14; k++) {
            g.feed(0, 4);
        }
        due(g.feed(0, 5), BAD);
        due(g.feed(0, -1), BAD);
        due(g.union(6, 1), BAD);
        due(g.union(1, 2), BAD);
        due(g.back(4), BAD);
    }

    private static void judgedRows() {
        says("a row tells PARTS of the SHAPE of a CORNER, from PART 0 on: the first PART that is otherwise");
        GrowthGrid g = of("33;110;101;011", 3);
        // 2 2 1 1.
        int[] parts = {2, 2, 1, 1};
        g.row(0, 4);
        for (int i = 0; i < 4; i++) {
            due(g.judge(0, 3, 3), i);
            g.set(0, i, parts[i]);
        }
        due(g.judge(0, 3, 3), NOT);
        for (int i = 0; i < 4; i++) {
            g.set(0, i, parts[i] + 1);
            due(g.judge(0, 3, 3), i);
            g.set(0, i, parts[i] - 1);
            due(g.judge(0, 3, 3), i);
            g.set(0, i, -parts[i]);
            due(g.judge(0, 3, 3), i);
            g.set(0, i, parts[i]);
        }
        g.set(0, 3, 0);
        g.set(0, 1, LEAST);
        due(g.judge(0, 3, 3), 1);
        // Judging changes nothing.
        due(g.get(0, 1), LEAST);
        due(g.judge(0, 3, 3), 1);
        // It is the shape as it is.
        g.set(0, 1, 2);
        g.set(0, 3, 1);
        due(g.judge(0, 3, 3), NOT);
        g.rule(0);
        due(g.judge(0, 3, 3), 0);
    }

    private static void judgedRowsOfOtherLengths() {
        says("(a row has 0 beyond its end); NOT: none");
        GrowthGrid g = of("33;110;101;011", 3);
        g.row(0, 2);
        g.set(0, 0, 2);
        g.set(0, 1, 2);
        due(g.judge(0, 3, 3), 2);
        g.row(1, 0);
        due(g.judge(1, 3, 3), 0);
        due(g.judge(1, 0, 0), NOT);
        due(g.judge(1, 3, 0), NOT);
        // What stood behind a shorter row's end before does not count.
        g.row(0, 4);
        for (int i = 0; i < 4; i++) {
            g.set(0, i, i < 2 ? 2 : 1);
        }
        g.row(0, 3);
        g.set(0, 0, 2);
        g.set(0, 1, 2);
        g.set(0, 2, 1);
        due(g.judge(0, 3, 3), 3);
        // Up to the last one of a long shape.
        g = of(ALL_3, 3);
        g.row(0, 26);
        for (int i = 0; i < 26; i++) {
            g.set(0, i, g.part(5, 5, i));
        }
        due(g.judge(0, 5, 5), 26);

        says("Numbers of a longer row that is JUDGED have to be 0.");
        g = of("22;11;11");
        g.row(2, 30);
        g.set(2, 0, 3);
        g.set(2, 1, 1);
        due(g.judge(2, 2, 2), NOT);
        for (int i = 29; i >= 2; i--) {
            g.set(2, i, i % 2 == 0 ? 1 : -1);
            due(g.judge(2, 2, 2), i);
        }
        g.row(2, 30);
        due(g.judge(2, 0, 2), NOT);
        g.set(2, 29, 1);
        due(g.judge(2, 0, 2), 29);
    }

    private static void judgeRefused() {
        says("JUDGED. BAD: h, CORNER; -11; -12 (no row); NOT.");
        GrowthGrid g = of("22;11;11");
        due(g.judge(0, 2, 2), NOTHING);
        g.hold(0, 2, 2);
        due(g.judge(0, 2, 2), KIND);
        g.row(0, 0);
        due(g.judge(0, 2, 0), NOT);
        int[][] none = {{3, 0}, {0, 3}, {-1, 0}, {0, -1}, {LEAST, 0}, {0, LEAST}, {GREATEST, 0}, {0, GREATEST}};
        for (int[] at : none) {
            due(g.judge(0, at[0], at[1]), BAD);
            due(g.judge(1, at[0], at[1]), BAD);
        }
        for (int no : NO_HOLDERS) {
            due(g.judge(no, 2, 2), BAD);
        }
    }

    private static void dropped() {
        says("A HOLDER holds nothing: what it held: 0 nothing, 1 a FLAT SHAPE, 2 a TALL one, 3 a row. BAD.");
        GrowthGrid g = of("22;11;11");
        g.hold(0, 2, 1);
        g.hold(1, 2, 2);
        g.row(2, 5);
        g.row(3, 0);
        int[] held = {1, 2, 3, 3, 0, 0};
        for (int round = 0; round < 2; round++) {
            for (int h = 0; h <= 5; h++) {
                due(g.drop(h), round == 0 ? held[h] : 0);
                due(g.taken(h, 0), NOTHING);
                due(g.was(h, 0), NOTHING);
                due(g.set(h, 0, 1), NOTHING);
                due(g.get(h, 0), NO);
                due(g.judge(h, 0, 0), NOTHING);
            }
        }
        for (int no : NO_HOLDERS) {
            due(g.drop(no), BAD);
        }
    }

    // ---- the image

    private static void keptImages() {
        says("THE IMAGE keeps C, R, NUMBERS, RULE");
        GrowthGrid g = of("32;012;300", 3);
        due(g.image(), 3);
        g.grid(5, 5);
        g.rule(1);
        g.put(5, 5, 3);
        due(g.restore(), 3);
        due(textOf(g), "32;012;300");
        due(g.count(2), 3);
        due(shapeOf(g, 3, 2), "2 2 2");
        due(g.cell(5, 5), BAD);
        due(g.longest(2, 0), 3);

        says("All that THE IMAGE keeps is as it was then (THE IMAGE stays): how many CELLS have a NUMBER above 0.");
        g.put(1, 1, 0);
        g.turn(0);
        due(g.restore(), 3);
        due(textOf(g), "32;012;300");
        due(g.restore(), 3);
        due(textOf(g), "32;012;300");

        says("THE IMAGE is kept: how many CELLS have a NUMBER above 0.");
        // A later one takes the place of the earlier one.
        g.put(1, 1, 0);
        due(g.image(), 2);
        g.put(1, 1, 2);
        due(g.restore(), 2);
        due(textOf(g), "32;012;000");
        due(new GrowthGrid().image(), 0);
        due(of(ALL_3).image(), 25);
        // One of a new grid can be taken back to, too.
        g = new GrowthGrid();
        g.image();
        g.grid(1, 1);
        g.rule(2);
        due(g.restore(), 0);
        due(textOf(g), "33;000;000;000");
        due(g.count(2), 0);
    }

    private static void imageKeepsNoMore() {
        says("(not DEEDS, THE TAPE, HOLDERS)");
        GrowthGrid g = of("22;10;02");
        feed(g, "11");
        g.hold(0, 2, 2);
        g.row(1, 2);
        g.set(1, 0, 5);
        g.image();
        due(g.count(3), 1);
        feed(g, ";3");
        g.drop(0);
        g.set(1, 0, 6);
        g.row(2, 1);
        g.put(1, 1, 1);
        due(g.restore(), 2);
        due(g.count(3), 0);
        due(g.count(4), 0);
        due(g.count(5), 4);
        due(g.drop(0), 0);
        due(g.get(1, 0), 6);
        due(g.drop(2), 3);
        due(g.read(), 1);
        due(textOf(g), "11;3");
    }

    private static void imageRefused() {
        says("STATE: none was kept.");
        GrowthGrid g = of("22;10;02", 1);
        g.put(1, 1, 1);
        g.undo();
        String before = stateOf(g);
        due(g.restore(), STATE);
        due(stateOf(g), before);
        due(new GrowthGrid().restore(), STATE);
        g.image();
        due(g.restore(), 2);
    }

    private static void counts() {
        says("0 C, 1 R, 2 RULE, 3 DEEDS that can be UNDONE, 4 those that can be DONE AGAIN, 5 bytes of THE TAPE, 6 all NUMBERS together. BAD.");
        GrowthGrid g = of("42;0123;3001", 2);
        g.rule(3);
        g.undo();
        g.feed(0, 3);
        int[] want = {4, 2, 2, 2, 1, 3, 10};
        for (int what = 0; what < want.length; what++) {
            due(g.count(what), want[what]);
        }
        for (int no : new int[] {-1, 7, 8, 100, LEAST, GREATEST}) {
            due(g.count(no), BAD);
        }
        // NUMBERS, not WORTHS, and all of them.
        due(of(ALL_3, 1).count(6), 75);
        due(new GrowthGrid().count(6), 0);
    }
}
