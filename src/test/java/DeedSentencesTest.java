/** The document sentence by sentence: deeds undone and done again, the tape, texts (promises 22 to 26). */
public final class DeedSentencesTest extends Sentences {
    private static final String ALL_3 = "55;33333;33333;33333;33333;33333";
    private static final int DEEDS = 7;

    public static void main(String[] args) {
        eachDeedUndone();
        eachDeedEndsAgain();
        deedsThatChangeNothing();
        refusedOnes();
        eightDeeds();
        asAheadOfIt();
        latestFirst();
        undoneAndDoneMore();
        upToTheLastCall();
        nothingToUndo();
        otherCallsAreNoDeeds();
        imagesAndDeeds();
        fedBytes();
        fullTape();
        wiped();
        texts();
        rowsOfTexts();
        faultsOfSides();
        faultsOfCells();
        faultsOfLength();
        faultsEmptyTheTape();
        anyBytes();
        end();
    }

    /** A deed that changes the grid below. */
    private static void deed(GrowthGrid g, int which) {
        switch (which) {
            case 0 -> g.grid(2, 4);
            case 1 -> g.put(1, 1, 2);
            case 2 -> g.rule(3);
            case 3 -> g.word(12);
            case 4 -> g.back(1);
            case 5 -> g.turn(0);
            default -> {
                feed(g, "12;3;1");
                g.read();
            }
        }
    }

    private static GrowthGrid someGrid() {
        return of("22;10;02");
    }

    private static String gridAndRule(GrowthGrid g) {
        return textOf(g) + " rule " + g.count(2) + " size " + g.shape(g.count(0), g.count(1), 0);
    }

    // ---- deeds

    private static void eachDeedUndone() {
        says("what grid(), put(), rule(), word(), back(), turn() and read() do truly");
        String[] behind = {"24;00;00;00;00 rule 0 size 0", "22;10;22 rule 0 size 5", "22;10;02 rule 3 size 3",
            "22;01;10 rule 0 size 2", "22;01;11 rule 1 size 3", "22;20;01 rule 0 size 3", "12;3;1 rule 0 size 4"};
        for (int which = 0; which < DEEDS; which++) {
            GrowthGrid g = someGrid();
            deed(g, which);
            due(gridAndRule(g), behind[which]);
            due(g.count(3), 2);
            due(g.undo(), 1);
            due(gridAndRule(g), "22;10;02 rule 0 size 3");
            due(g.count(4), 1);
            due(g.again(), 0);
            due(gridAndRule(g), behind[which]);
            due(g.count(3), 2);
        }
    }

    private static void eachDeedEndsAgain() {
        says("what was UNDONE can be DONE AGAIN, the latest UNDONE first, till another DEED is done.");
        for (int which = 0; which < DEEDS; which++) {
            GrowthGrid g = someGrid();
            g.put(2, 2, 3);
            g.put(2, 2, 2);
            g.undo();
            g.undo();
            due(g.count(4), 2);
            deed(g, which);
            due(g.count(4), 0);
            due(g.again(), STATE);
            due(g.count(3), 2);
            due(g.undo(), 1);
            due(gridAndRule(g), "22;10;02 rule 0 size 3");
            due(g.count(4), 1);
        }
    }

    private static void deedsThatChangeNothing() {
        says("A DEED that leaves all as it was ends what can be DONE AGAIN, too.");
        for (int which = 0; which < DEEDS; which++) {
            GrowthGrid g = emptyAgain();
            deedWithoutChange(g, which);
            due(g.count(4), 0);
            due(g.again(), STATE);
            due(gridAndRule(g), "22;00;00 rule 0 size 0");
        }

        says("(each that is not refused, also if all stays as it was)");
        for (int which = 0; which < DEEDS; which++) {
            GrowthGrid g = emptyAgain();
            deedWithoutChange(g, which);
            due(g.count(3), 2);
            due(g.undo(), 1);
            due(gridAndRule(g), "22;00;00 rule 0 size 0");
            due(g.again(), 0);
            due(g.undo(), 1);
            due(g.undo(), 0);
            due(gridAndRule(g), "33;000;000;000 rule 0 size 0");
        }
    }

    /** Two columns and rows, all 0; one deed can be undone and one done again. */
    private static GrowthGrid emptyAgain() {
        GrowthGrid g = new GrowthGrid();
        g.grid(2, 2);
        g.put(1, 1, 1);
        g.undo();
        return g;
    }

    private static void deedWithoutChange(GrowthGrid g, int which) {
        switch (which) {
            case 0 -> due(g.grid(2, 2), 22);
            case 1 -> due(g.put(1, 1, 0), 0);
            case 2 -> due(g.rule(0), 0);
            case 3 -> due(g.word(0), 0);
            case 4 -> due(g.back(0), 0);
            case 5 -> due(g.turn(2), 0);
            default -> {
                feed(g, "22;00;00");
                due(g.read(), 0);
            }
        }
    }

    private static void refusedOnes() {
        says("What is refused so changes nothing, but where it is told.");
        GrowthGrid g = of("22;11;11", 1);
        g.put(1, 1, 3);
        g.undo();
        String before = stateOf(g);
        due(g.grid(0, 2), BAD);
        due(g.grid(2, 6), BAD);
        due(g.put(3, 1, 1), BAD);
        due(g.put(1, 1, 4), BAD);
        due(g.rule(4), BAD);
        due(g.word(13), BAD);
        due(g.word(-1), BAD);
        due(g.word(111), BAD);
        due(g.turn(3), BAD);
        due(g.back(4), BAD);
        due(g.back(0), STATE);
        due(g.restore(), STATE);
        due(g.feed(0, 5), BAD);
        due(g.hold(6, 0, 0), BAD);
        due(g.hold(0, 3, 0), BAD);
        due(g.row(0, 31), BAD);
        due(g.row(0, -1), BELOW);
        due(stateOf(g), before);
        // A FAULT is told to empty the tape, but is no deed.
        feed(g, "22;11;1");
        due(g.read(), -1007);
        due(stateOf(g), before);
        due(g.read(), -1000);
        due(stateOf(g), before);
        due(g.again(), 0);
        due(g.cell(1, 1), 3);
    }

    private static void eightDeeds() {
        says("8 at most (older ones no more)");
        for (int deeds = 0; deeds <= 20; deeds++) {
            GrowthGrid g = new GrowthGrid();
            for (int k = 1; k <= deeds; k++) {
                g.put(1 + k % 3, 1, k % 4);
                due(g.count(3), Math.min(k, 8));
            }
            int kept = Math.min(deeds, 8);
            for (int k = 1; k <= kept; k++) {
                due(g.undo(), kept - k);
            }
            due(g.undo(), STATE);
            due(g.count(3), 0);
            due(g.count(4), kept);
            // What is left is what the oldest deeds did.
            GrowthGrid oldest = new GrowthGrid();
            for (int k = 1; k <= deeds - kept; k++) {
                oldest.put(1 + k % 3, 1, k % 4);
            }
            due(textOf(g), textOf(oldest));
            for (int k = 1; k <= kept; k++) {
                due(g.again(), kept - k);
            }
            due(g.again(), STATE);
            due(g.count(3), kept);
        }
    }

    private static void asAheadOfIt() {
        says("C, R, NUMBERS, RULE are as ahead of it");
        GrowthGrid g = of("32;012;300", 2);
        g.grid(5, 1);
        g.rule(1);
        g.undo();
        g.undo();
        due(gridAndRule(g), "32;012;300 rule 2 size 3");
        g.again();
        due(gridAndRule(g), "51;00000 rule 2 size 0");
        g.again();
        due(g.count(2), 1);
        // Numbers outside a smaller grid are back behind it.
        g = of(ALL_3);
        g.grid(1, 1);
        g.undo();
        due(textOf(g), ALL_3);
        due(g.shape(5, 5, 0), 75);

        // THE TAPE, HOLDERS and THE IMAGE stay as they are.
        g = of("22;10;02");
        g.image();
        feed(g, "11;1");
        g.read();
        feed(g, "12");
        g.hold(0, 1, 1);
        g.row(1, 2);
        g.undo();
        due(g.count(5), 2);
        due(g.taken(0, 0), 1);
        due(g.drop(1), 3);
        due(g.undo(), 0);
        due(g.restore(), 2);
        due(textOf(g), "22;10;02");
    }

    private static void latestFirst() {
        says("can be UNDONE, the latest first");
        GrowthGrid g = new GrowthGrid();
        for (int v = 1; v <= 3; v++) {
            g.put(1, 1, v);
        }
        due(g.undo(), 2);
        due(g.cell(1, 1), 2);
        due(g.undo(), 1);
        due(g.cell(1, 1), 1);
        due(g.undo(), 0);
        due(g.cell(1, 1), 0);

        says("What was UNDONE latest is DONE AGAIN: how many still can be.");
        due(g.again(), 2);
        due(g.cell(1, 1), 1);
        due(g.again(), 1);
        due(g.cell(1, 1), 2);
        due(g.undo(), 1);
        due(g.cell(1, 1), 1);
        due(g.again(), 1);
        due(g.again(), 0);
        due(g.cell(1, 1), 3);
        due(g.count(3), 3);
    }

    private static void undoneAndDoneMore() {
        says("The latest DEED is UNDONE: how many still can be.");
        GrowthGrid g = new GrowthGrid();
        for (int k = 1; k <= 8; k++) {
            g.put(1, 1, k % 4);
        }
        for (int k = 7; k >= 5; k--) {
            due(g.undo(), k);
        }
        due(g.cell(1, 1), 1);
        g.put(2, 2, 1);
        due(g.count(3), 6);
        due(g.count(4), 0);
        g.put(2, 2, 2);
        g.put(2, 2, 3);
        due(g.count(3), 8);
        g.put(2, 2, 0);
        due(g.count(3), 8);
        int[] numbers = {3, 2, 1, 0};
        for (int k = 0; k < numbers.length; k++) {
            due(g.undo(), 7 - k);
            due(g.cell(2, 2), numbers[k]);
        }
        due(g.cell(1, 1), 1);
        due(g.undo(), 3);
        due(g.cell(1, 1), 0);
        due(g.count(4), 5);
    }

    private static void upToTheLastCall() {
        says("An object is used for at most 512 calls after it has been made");
        GrowthGrid g = new GrowthGrid();
        for (int call = 1; call <= 503; call++) {
            due(g.put(2, 2, call % 3), (call - 1) % 3);
        }
        for (int k = 7; k >= 0; k--) {
            due(g.undo(), k);
        }
        due(g.cell(2, 2), 495 % 3);
    }

    private static void nothingToUndo() {
        says("The latest DEED is UNDONE: how many still can be. STATE: there is none.");
        GrowthGrid g = new GrowthGrid();
        String before = stateOf(g);
        due(g.undo(), STATE);
        due(stateOf(g), before);
        g.put(1, 1, 1);
        due(g.undo(), 0);
        due(g.undo(), STATE);
        due(g.count(4), 1);
        due(g.again(), 0);
        due(g.cell(1, 1), 1);

        says("What was UNDONE latest is DONE AGAIN: how many still can be. STATE: there is none.");
        before = stateOf(g);
        due(g.again(), STATE);
        due(g.again(), STATE);
        due(stateOf(g), before);
        due(new GrowthGrid().again(), STATE);
        due(g.undo(), 0);
    }

    private static void otherCallsAreNoDeeds() {
        says("3 DEEDS that can be UNDONE, 4 those that can be DONE AGAIN");
        GrowthGrid g = of("22;10;02");
        g.put(1, 1, 1);
        g.undo();
        g.feed(0, 4);
        g.wipe();
        g.hold(0, 1, 1);
        g.taken(0, 0);
        g.was(0, 0);
        g.drop(0);
        g.row(0, 3);
        g.set(0, 0, 1);
        g.get(0, 0);
        g.judge(0, 1, 1);
        g.image();
        g.cell(1, 1);
        g.spelled();
        g.part(1, 1, 0);
        g.shape(1, 1, 0);
        g.turned(1, 1, 0);
        g.standard(1, 1);
        g.product(1, 1);
        g.filling(0, 0, 0);
        g.along(3, 0);
        g.fits(0);
        g.longest(0, 0);
        g.union(1, 1);
        g.corner(0);
        g.unlike(0);
        due(g.count(3), 1);
        due(g.count(4), 1);
        due(g.again(), 0);
        due(g.cell(1, 1), 1);
    }

    private static void imagesAndDeeds() {
        says("restore() leaves neither.");
        GrowthGrid g = of("22;10;02");
        g.image();
        g.put(1, 1, 1);
        g.put(1, 1, 2);
        g.undo();
        due(g.count(3), 2);
        due(g.count(4), 1);
        due(g.restore(), 2);
        due(g.count(3), 0);
        due(g.count(4), 0);
        String before = stateOf(g);
        due(g.undo(), STATE);
        due(g.again(), STATE);
        due(stateOf(g), before);
        // Deeds behind it are undone down to what was restored.
        g.put(2, 2, 3);
        g.put(2, 2, 1);
        due(g.undo(), 1);
        due(g.undo(), 0);
        due(textOf(g), "22;10;02");
        due(g.count(4), 2);
        // One that is refused leaves both.
        g = of("22;10;02");
        g.put(1, 1, 1);
        g.undo();
        due(g.restore(), STATE);
        due(g.count(3), 1);
        due(g.count(4), 1);
    }

    // ---- the tape

    private static void fedBytes() {
        says("The n (1 .. 4) lowest bytes of v come behind THE TAPE's, the highest of these first: how many it has.");
        GrowthGrid g = new GrowthGrid();
        due(g.feed(0x31313b33, 4), 4);
        due(g.read(), 1);
        due(textOf(g), "11;3");
        due(g.feed(0x31, 1), 1);
        due(g.feed(0x323b, 2), 3);
        due(g.feed(0x323b31, 3), 6);
        due(g.read(), 2);
        due(textOf(g), "12;2;1");
        // Bytes above the n lowest are not looked at.
        due(g.feed(0xffffff31, 1), 1);
        due(g.feed(0x7fff313b, 2), 3);
        due(g.feed(0x80000032, 1), 4);
        due(g.read(), 1);
        due(textOf(g), "11;2");

        says("BAD: n; FULL: there would be more than 60 (none comes).");
        for (int no : new int[] {0, -1, 5, 6, LEAST, GREATEST}) {
            due(g.feed(0x31, no), BAD);
        }
        due(g.count(5), 0);
        for (int k = 1; k <= 15; k++) {
            due(g.feed(k, 4), 4 * k);
        }
        for (int n = 1; n <= 4; n++) {
            due(g.feed(0, n), FULL);
        }
        due(g.feed(0, 5), BAD);
        due(g.feed(0, 0), BAD);
        due(g.count(5), 60);
    }

    private static void fullTape() {
        says("THE TAPE: bytes, 60 at most.");
        for (int had = 57; had <= 60; had++) {
            for (int n = 1; n <= 4; n++) {
                GrowthGrid g = new GrowthGrid();
                for (int k = 1; k <= had; k++) {
                    g.feed(0x31, 1);
                }
                due(g.feed(0x31313131, n), had + n <= 60 ? had + n : FULL);
                due(g.count(5), had + n <= 60 ? had + n : had);
                due(g.wipe(), had + n <= 60 ? had + n : had);
                due(g.feed(0, 1), 1);
            }
        }
    }

    private static void wiped() {
        says("THE TAPE is empty: how many bytes it had.");
        GrowthGrid g = new GrowthGrid();
        due(g.wipe(), 0);
        g.feed(0, 3);
        due(g.wipe(), 3);
        due(g.wipe(), 0);
        due(g.count(5), 0);
        // Nothing of it is read later.
        feed(g, "11;3");
        g.wipe();
        due(g.read(), -1000);
        feed(g, "11");
        due(g.read(), -1002);
        due(g.cell(3, 3), 0);
    }

    // ---- texts

    private static void texts() {
        says("C and R (a digit each, 1 .. 5), then R times a ; and C digits (0 .. 3)");
        for (int c = 1; c <= 5; c++) {
            for (int r = 1; r <= 5; r++) {
                StringBuilder text = new StringBuilder().append(c).append(r);
                int filled = 0;
                for (int k = 0; k < c * r; k++) {
                    text.append(k % c == 0 ? ";" : "").append(k % 4);
                    filled += k % 4 > 0 ? 1 : 0;
                }
                GrowthGrid g = new GrowthGrid();
                feed(g, text.toString());
                due(g.read(), filled);
                due(textOf(g), text.toString());
                due(g.count(5), 0);
            }
        }

        says("which is THE GRID: how many CELLS have a NUMBER above 0. -1000 less the FAULT.");
        GrowthGrid g = of(ALL_3);
        feed(g, "22;00;00");
        due(g.read(), 0);
        feed(g, ALL_3);
        due(g.read(), 25);
        feed(g, "22;00;0");
        due(g.read(), -1007);
        due(textOf(g), ALL_3);
    }

    private static void rowsOfTexts() {
        says("ROW R first, down to ROW 1, in each from COLUMN 1 on");
        GrowthGrid g = of("32;012;300");
        due(g.cell(1, 2), 0);
        due(g.cell(2, 2), 1);
        due(g.cell(3, 2), 2);
        due(g.cell(1, 1), 3);
        due(g.cell(2, 1), 0);
        due(g.cell(3, 1), 0);

        says("By a TEXT THE GRID has this C, R and these NUMBERS (RULE stays).");
        for (int rule = 0; rule <= 3; rule++) {
            g = of(ALL_3, rule);
            feed(g, "23;01;20;03");
            due(g.read(), 3);
            due(g.count(2), rule);
            due(g.count(0), 2);
            due(g.count(1), 3);
            due(g.count(6), 6);
            // Nothing of the larger grid stays.
            g.grid(5, 5);
            due(g.count(6), 0);
        }
    }

    private static int faultOf(String text) {
        GrowthGrid g = of("22;10;02", 3);
        feed(g, text);
        int answer = g.read();
        due(textOf(g), "22;10;02");
        due(g.count(2), 3);
        due(g.count(3), 2);
        due(g.count(5), 0);
        return answer;
    }

    private static void faultsOfSides() {
        says("In read(), a figure that cannot be is the FAULT at its byte.");
        for (String no : new String[] {"0", "6", "7", "9", "/", ":", ";", " ", "a", "\u0000", "\u00ff"}) {
            due(faultOf(no + "2;10;02"), -1000);
            due(faultOf("2" + no + ";10;02"), -1001);
            due(faultOf(no), -1000);
            due(faultOf("2" + no), -1001);
            due(faultOf(no + no), -1000);
        }
        for (String no : new String[] {"4", "5", "9", "/", ":", ";", " ", "a", "\u0000", "\u00ff"}) {
            due(faultOf("22;" + no + "0;02"), -1003);
            due(faultOf("22;1" + no + ";02"), -1004);
            due(faultOf("22;10;" + no + "2"), -1006);
            due(faultOf("22;10;0" + no), -1007);
        }
    }

    private static void faultsOfCells() {
        says("FAULT: the place (from 0) of the first byte that is not as it must be there");
        // Of several faults it is the first.
        due(faultOf("66;44;44"), -1000);
        due(faultOf("26;44;44"), -1001);
        due(faultOf("22:44;44"), -1002);
        due(faultOf("22;44;44"), -1003);
        due(faultOf("22;1;;44"), -1004);
        due(faultOf("22;10:02"), -1005);
        due(faultOf("22;10002"), -1005);
        due(faultOf("2210;02"), -1002);
        due(faultOf("22;100;02"), -1005);
        due(faultOf("22;1;02"), -1004);
        due(faultOf("22;10;0;"), -1007);
        due(faultOf("55;33333;33333;33333;33333;33334"), -1031);
        due(faultOf("55;33333;33333;33333;33333033333"), -1026);
        due(faultOf("55;33333;33333;33333;33333;;3333"), -1027);
    }

    private static void faultsOfLength() {
        says("(how many bytes there are, if it ends too early; a byte beyond all that is told so, too)");
        String text = "32;012;300";
        for (int n = 0; n < text.length(); n++) {
            due(faultOf(text.substring(0, n)), -1000 - n);
        }
        for (int n = 0; n < ALL_3.length(); n++) {
            due(faultOf(ALL_3.substring(0, n)), -1000 - n);
        }
        for (String more : new String[] {"0", ";", ";0", ";000", "\u0000", "x", "32;012;300"}) {
            due(faultOf(text + more), -1010);
        }
        due(faultOf(ALL_3 + "0"), -1032);
        due(faultOf(ALL_3 + ";33333"), -1032);
        due(faultOf(ALL_3 + "3".repeat(28)), -1032);
        due(faultOf("11;00"), -1004);
        due(faultOf(""), -1000);
    }

    private static void faultsEmptyTheTape() {
        says("THE TAPE, which is empty then (by a FAULT, too), is the TEXT of a grid");
        GrowthGrid g = new GrowthGrid();
        feed(g, "11;");
        due(g.read(), -1003);
        due(g.count(5), 0);
        due(g.wipe(), 0);
        due(g.read(), -1000);
        feed(g, "11;2");
        due(g.read(), 1);
        due(g.count(5), 0);
        due(g.read(), -1000);
        due(textOf(g), "11;2");
    }

    private static void anyBytes() {
        says("Any bytes can be fed; they are a FAULT when they are read.");
        for (int b = 0; b <= 255; b++) {
            boolean side = b >= '1' && b <= '5', number = b >= '0' && b <= '3';
            int[] wanted = {
                b == '1' ? 1 : side ? -1004 : -1000,
                b == '1' ? 1 : side ? -1004 : -1001,
                b == ';' ? 1 : -1002,
                b == '0' ? 0 : number ? 1 : -1003,
            };
            for (int place = 0; place < wanted.length; place++) {
                GrowthGrid g = new GrowthGrid();
                for (int p = 0; p < 4; p++) {
                    due(g.feed(p == place ? b : "11;3".charAt(p), 1), p + 1);
                }
                due(g.read(), wanted[place]);
            }
        }
    }
}
