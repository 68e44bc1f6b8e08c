/** The document sentence by sentence: shapes, the rim and going back (promises 9 to 17). */
public final class ShapeSentencesTest extends Sentences {
    private static final String ALL_3 = "55;33333;33333;33333;33333;33333";
    private static final int[] NO_PLACES = {-1, 100, 101, LEAST, GREATEST};
    private static final String[] TEXTS = {"11;3", "51;12301", "15;1;2;3;0;1", "22;11;11", "32;012;300",
        "33;001;011;111", "33;110;101;011", "33;012;300;023", "43;0120;3001;0230", "34;100;010;001;000",
        "44;0001;0011;0111;1111", "55;10000;01000;00100;00010;00001", "55;00100;00001;01000;00010;10000",
        "55;01210;30012;00300;11111;20003", ALL_3};

    public static void main(String[] args) {
        worths();
        shapesAsTold();
        emptyCorners();
        endOfGrowing();
        ruleZero();
        rulesOneAndTwo();
        ruleThree();
        partsAsked();
        sizesAsked();
        turnedAsked();
        standards();
        standardsOfTwenty();
        products();
        productsTooWide();
        fillings();
        fillingsOfLongGrids();
        paths();
        noPaths();
        levelSteps();
        uprightSteps();
        rulesOfTheRim();
        orderOfTheRim();
        rimAsItIs();
        backByZero();
        backByOneAndTwo();
        backByThree();
        backAboveThree();
        backWhereNumbersStay();
        backRefused();
        rimBehindBack();
        end();
    }

    // ---- how shapes grow

    private static void worths() {
        says("its NUMBER by RULES 0 and 3; by RULES 1 and 2 the lesser of that and 1");
        String[] byThree = {"", "1", "1 1", "1 1 1"};
        GrowthGrid g = new GrowthGrid();
        for (int v = 0; v <= 3; v++) {
            g.grid(1, 1);
            g.put(1, 1, v);
            String number = v == 0 ? "" : Integer.toString(v), worth = v == 0 ? "" : "1";
            g.rule(0);
            due(shapeOf(g, 1, 1), number);
            g.rule(1);
            due(shapeOf(g, 1, 1), worth);
            g.rule(2);
            due(shapeOf(g, 1, 1), worth);
            g.rule(3);
            due(shapeOf(g, 1, 1), byThree[v]);
        }
    }

    private static void shapesAsTold() {
        says("whole numbers, none greater than the one ahead of it; from some place on they are 0 (EMPTY: all are 0)");
        for (String text : TEXTS) {
            for (int rule = 0; rule <= 3; rule++) {
                GrowthGrid g = of(text, rule);
                int ahead = GREATEST, size = 0, length = 0;
                for (int i = 0; i <= 99; i++) {
                    int part = g.part(g.count(0), g.count(1), i);
                    due(part >= 0 && part <= ahead ? 1 : 0, 1);
                    size += part;
                    length += part > 0 ? 1 : 0;
                    ahead = part;
                }
                due(g.shape(g.count(0), g.count(1), 0), size);
                due(g.shape(g.count(0), g.count(1), 1), length);
            }
        }
    }

    private static void emptyCorners() {
        says("those with x 0 or y 0 are EMPTY");
        for (int rule = 0; rule <= 3; rule++) {
            GrowthGrid g = of(ALL_3, rule);
            for (int k = 0; k <= 5; k++) {
                due(shapeOf(g, k, 0), "");
                due(shapeOf(g, 0, k), "");
                due(g.shape(k, 0, 0), 0);
                due(g.shape(0, k, 1), 0);
                due(g.turned(0, k, 0), 0);
            }
        }

        says("CORNERS (x, y), x 0 .. C, y 0 .. R, have a SHAPE each");
        GrowthGrid g = of("42;1001;0110");
        due(g.shape(4, 2, 0), 4);
        int[][] none = {{5, 0}, {5, 2}, {0, 3}, {4, 3}, {2, 4}, {-1, 0}, {0, -1}, {LEAST, 0}, {0, LEAST}, {GREATEST, 0},
            {0, GREATEST}, {6, 6}};
        for (int[] at : none) {
            due(g.part(at[0], at[1], 0), BAD);
            due(g.shape(at[0], at[1], 0), BAD);
            due(g.turned(at[0], at[1], 0), BAD);
            due(g.standard(at[0], at[1]), NO);
            due(g.product(at[0], at[1]), BAD);
            due(g.hold(0, at[0], at[1]), BAD);
            due(g.judge(0, at[0], at[1]), BAD);
        }
        due(g.drop(0), 0);
    }

    private static void endOfGrowing() {
        says("till NEW's PART i is 0 (then all further ones are 0, too)");
        GrowthGrid g = of(ALL_3, 3);
        due(g.part(5, 5, 26), 1);
        due(g.part(5, 5, 27), 0);
        // What longer shapes had there is gone.
        g.rule(0);
        due(shapeOf(g, 1, 1), "3");
        due(g.part(1, 1, 1), 0);
        due(g.part(1, 1, 2), 0);
        due(g.part(5, 5, 5), 0);
        g.rule(3);
        due(g.shape(5, 5, 1), 27);
        g.grid(5, 5);
        for (int i = 0; i <= 99; i++) {
            due(g.part(5, 5, i), 0);
        }
    }

    private static void ruleZero() {
        says("RULE 0: N is the greater of A and B, plus c; then c becomes the lesser of A and B, less O.");
        GrowthGrid g = of("22;11;11", 0);
        due(shapeOf(g, 2, 1), "2");
        due(shapeOf(g, 1, 2), "2");
        due(shapeOf(g, 2, 2), "3 1");
        g = of("33;110;101;011", 0);
        due(shapeOf(g, 2, 2), "1 1");
        due(shapeOf(g, 3, 2), "3 1");
        due(shapeOf(g, 2, 3), "3 1");
        due(shapeOf(g, 3, 3), "3 3");
        g = of("33;100;010;001", 0);
        due(shapeOf(g, 3, 3), "1 1 1");
        g = of("21;23", 0);
        due(shapeOf(g, 2, 1), "5");
        g = of("22;20;03", 0);
        due(shapeOf(g, 2, 2), "3 2");
    }

    private static void rulesOneAndTwo() {
        says("RULE 1: N is the greater of (A plus c) and B; then c becomes the lesser of (A plus c, with c as it was) and B, less O.");
        GrowthGrid g = of("22;11;11", 1);
        due(shapeOf(g, 2, 1), "2");
        due(shapeOf(g, 1, 2), "1 1");
        due(shapeOf(g, 2, 2), "2 2");
        g = of("33;110;101;011", 1);
        due(shapeOf(g, 3, 1), "2");
        due(shapeOf(g, 2, 2), "1 1");
        due(shapeOf(g, 3, 2), "2 2");
        due(shapeOf(g, 1, 3), "1 1");
        due(shapeOf(g, 2, 3), "2 1 1");
        due(shapeOf(g, 3, 3), "2 2 2");
        g = of("33;001;011;111", 1);
        due(shapeOf(g, 2, 2), "2 1");
        due(shapeOf(g, 3, 2), "3 2");
        due(shapeOf(g, 3, 3), "3 2 1");

        says("RULE 2: as RULE 1, but with B for A and A for B.");
        g = of("22;11;11", 2);
        due(shapeOf(g, 2, 1), "1 1");
        due(shapeOf(g, 1, 2), "2");
        due(shapeOf(g, 2, 2), "2 2");
        g = of("33;110;101;011", 2);
        due(shapeOf(g, 3, 1), "1 1");
        due(shapeOf(g, 1, 3), "2");
        due(shapeOf(g, 3, 2), "2 1 1");
        due(shapeOf(g, 2, 3), "2 2");
        due(shapeOf(g, 3, 3), "2 2 2");
        g = of("33;001;011;111", 2);
        g.turn(0);
        due(shapeOf(g, 2, 3), "3 2");
        due(shapeOf(g, 3, 3), "3 2 1");
    }

    private static void ruleThree() {
        says("RULE 3: e is 1, if O, A, B are the same, else 0; d is the lesser of c and e; N is the greater of A and B, plus d; "
                + "then c becomes c less d, plus the lesser of A and B, less O.");
        GrowthGrid g = of("22;11;11", 3);
        due(shapeOf(g, 2, 1), "1 1");
        due(shapeOf(g, 1, 2), "1 1");
        due(shapeOf(g, 2, 2), "2 1 1");
        g = of("33;110;101;011", 3);
        due(shapeOf(g, 2, 2), "1 1");
        due(shapeOf(g, 3, 2), "2 1 1");
        due(shapeOf(g, 2, 3), "2 1 1");
        due(shapeOf(g, 3, 3), "2 2 1 1");
        g = of("21;23", 3);
        due(shapeOf(g, 2, 1), "1 1 1 1 1");
        g = of("22;02;10", 3);
        due(shapeOf(g, 2, 2), "2 1");
    }

    // ---- what is asked of a shape

    private static void partsAsked() {
        says("PART i (0 .. 99) of the SHAPE of a CORNER. BAD.");
        GrowthGrid g = of("22;11;11");
        due(g.part(2, 2, 0), 3);
        due(g.part(2, 2, 1), 1);
        due(g.part(2, 2, 2), 0);
        due(g.part(2, 2, 99), 0);
        for (int no : NO_PLACES) {
            due(g.part(2, 2, no), BAD);
            due(g.part(0, 0, no), BAD);
        }
    }

    private static void sizesAsked() {
        says("SIZE of a SHAPE: all PARTS together. LENGTH: how many PARTS are above 0.");
        GrowthGrid g = of("33;110;101;011", 3);
        due(g.shape(3, 3, 0), 6);
        due(g.shape(3, 3, 1), 4);
        g = of(ALL_3);
        due(g.shape(5, 5, 0), 75);
        due(g.shape(1, 1, 1), 1);
        g.rule(1);
        due(g.shape(5, 5, 0), 25);
        due(g.shape(5, 5, 1), 5);

        says("Of the SHAPE of a CORNER SIZE (what 0), LENGTH (1). BAD.");
        due(g.shape(0, 5, 0), 0);
        due(g.shape(5, 0, 1), 0);
        for (int no : new int[] {-1, 2, 3, LEAST, GREATEST}) {
            due(g.shape(5, 5, no), BAD);
        }
    }

    private static void turnedAsked() {
        says("PART j of it is how many PARTS of that are above j");
        GrowthGrid g = of("22;31;11");
        // 5 1: PART 1 is not above 1, PART 0 not above 5.
        int[] want = {2, 1, 1, 1, 1, 0, 0};
        due(shapeOf(g, 2, 2), "5 1");
        for (int j = 0; j < want.length; j++) {
            due(g.turned(2, 2, j), want[j]);
        }
        g = of(ALL_3, 3);
        due(g.turned(5, 5, 0), 27);

        says("PART j (0 .. 99) of TURNED of the SHAPE of a CORNER. BAD.");
        due(g.turned(5, 5, 99), 0);
        due(g.turned(0, 0, 0), 0);
        for (int no : NO_PLACES) {
            due(g.turned(5, 5, no), BAD);
            due(g.turned(0, 5, no), BAD);
        }
    }

    private static void standards() {
        says("SIZE factorial by the product of all HOOKS (a place (i, j), j less than PART i: "
                + "PART i less j, plus PART j of TURNED less i, less 1)");
        due(of("22;11;11").standard(2, 2), 3);
        due(of("22;11;11", 1).standard(2, 2), 2);
        due(of("33;110;101;011").standard(3, 3), 5);
        due(of("33;110;101;011", 1).standard(3, 3), 5);
        due(of("33;110;101;011", 3).standard(3, 3), 9);
        due(of("33;001;011;111", 1).standard(3, 3), 16);
        due(of("11;3").standard(1, 1), 1);

        says("An EMPTY SHAPE has STANDARD and PRODUCT 1, and is FLAT.");
        GrowthGrid g = of(ALL_3);
        due(g.standard(0, 0), 1);
        due(g.standard(0, 5), 1);
        due(g.product(5, 0), 1);
        due(new GrowthGrid().standard(3, 3), 1);
        due(new GrowthGrid().product(3, 3), 1);
        due(g.hold(0, 0, 3), 0);
        due(g.taken(0, 0), 0);
        due(g.taken(0, 1), 0);
        due(g.taken(0, 2), KIND);
        due(g.drop(0), 1);
    }

    private static void standardsOfTwenty() {
        says("STANDARD of a SHAPE (SIZE 20 at most)");
        GrowthGrid g = of("52;33310;03331");
        due(shapeOf(g, 5, 2), "10 10");
        due(g.standard(5, 2), 16796);
        g.put(5, 2, 1);
        due(g.shape(5, 2, 0), 21);
        due(g.standard(5, 2), NO);
        due(g.standard(4, 2), 16796);
        g = of("53;33000;03300;00332", 3);
        due(g.shape(5, 3, 1), 20);
        due(g.standard(5, 3), 1);
        g.rule(0);
        due(g.standard(5, 3) > 1 ? 1 : 0, 1);
        g.put(5, 1, 3);
        due(g.standard(5, 3), NO);

        says("NO: BAD; STATE: its SIZE is above 20.");
        g = of(ALL_3);
        due(g.standard(5, 5), NO);
        due(g.standard(6, 5), NO);
        due(g.standard(5, 6), NO);
        due(g.standard(-1, 0), NO);
        due(g.standard(2, 3), 9996);
    }

    private static void products() {
        says("PRODUCT of a SHAPE: of all PARTS, each plus 1, multiplied.");
        due(of("22;11;11").product(2, 2), 8);
        due(of("22;11;11", 3).product(2, 2), 12);
        due(of("33;110;101;011", 3).product(3, 3), 36);
        due(of(ALL_3).product(1, 5), 16);
        due(of("11;0").product(1, 1), 1);
    }

    private static void productsTooWide() {
        says("PRODUCT of the SHAPE of a CORNER. BAD; WIDE: it is above 2147483647.");
        due(of("55;23212;10203;23102;13212;20033", 3).product(5, 5), 2125764000);
        due(of("55;02033;31301;01112;33332;02231", 3).product(5, 5), 2123366400);
        // 2 to the power of 31, 32, 33, which an int would tell as below 0, as 0 and as 0.
        due(of("55;31231;02301;20203;30330;21213", 3).product(5, 5), WIDE);
        due(of("55;31231;02301;20203;30330;21223", 3).product(5, 5), WIDE);
        due(of("55;30231;03301;20303;30330;21223", 3).product(5, 5), WIDE);
        due(of("55;13032;31233;20000;12023;12332", 3).product(5, 5), WIDE);
        due(of(ALL_3, 3).product(5, 5), WIDE);
        GrowthGrid g = of(ALL_3, 3);
        due(g.product(6, 5), BAD);
        due(g.product(5, -1), BAD);
    }

    // ---- fillings and paths

    private static void fillings() {
        says("of RIGHT: at place (i, j), i, j 0 and more, the least y for which PART i of the SHAPE of (C, y) is above j");
        // RIGHT: 4, then 6 1.
        GrowthGrid g = of("22;21;31");
        int[] right = {1, 1, 1, 1, 2, 2};
        for (int j = 0; j < right.length; j++) {
            due(g.filling(0, 0, j), right[j]);
        }
        due(g.filling(0, 1, 0), 2);

        says("of TOP: the least x for which PART i of the SHAPE of (x, R) is above j");
        // TOP: 5, then 6 1.
        int[] top = {1, 1, 1, 1, 1, 2};
        for (int j = 0; j < top.length; j++) {
            due(g.filling(1, 0, j), top[j]);
        }
        due(g.filling(1, 1, 0), 2);

        says("there is none, if PART i of the SHAPE of (C, R) is not above j");
        for (int which = 0; which <= 1; which++) {
            due(g.filling(which, 0, 6), NOT);
            due(g.filling(which, 1, 1), NOT);
            due(g.filling(which, 2, 0), NOT);
            due(g.filling(which, 0, 99), NOT);
            due(g.filling(which, 99, 0), NOT);
            due(new GrowthGrid().filling(which, 0, 0), NOT);
        }

        says("the number at place (i, j), i, j 0 .. 99, of RIGHT (which 0), TOP (1). BAD; NOT: there is none.");
        due(g.filling(0, 99, 99), NOT);
        for (int no : NO_PLACES) {
            for (int which = 0; which <= 1; which++) {
                due(g.filling(which, no, 0), BAD);
                due(g.filling(which, 0, no), BAD);
                due(g.filling(which, 99, no), BAD);
            }
        }
        for (int no : new int[] {-1, 2, 3, LEAST, GREATEST}) {
            due(g.filling(no, 0, 0), BAD);
        }
    }

    private static void fillingsOfLongGrids() {
        says("FILLINGS of THE RIM");
        GrowthGrid g = of("13;1;0;2");
        int[] right = {1, 1, 3, NOT}, top = {1, 1, 1, NOT};
        for (int j = 0; j < right.length; j++) {
            due(g.filling(0, 0, j), right[j]);
            due(g.filling(1, 0, j), top[j]);
        }
        g = of("51;00001", 3);
        due(g.filling(0, 0, 0), 1);
        due(g.filling(1, 0, 0), 5);
        g = of("15;2;0;0;0;0", 3);
        due(g.filling(0, 1, 0), 5);
        due(g.filling(1, 1, 0), 1);
        due(g.filling(0, 0, 1), NOT);
    }

    private static void paths() {
        says("bit k of STEP k (from 0): 0 to the right (x 1 more), 1 down (y 1 less)");
        // CORNERS 02, 12, 11, 21, 31, 30.
        GrowthGrid g = of("32;010;201");
        int[] sizes = {0, 2, 2, 2, 3, 0};
        for (int k = 0; k < sizes.length; k++) {
            due(g.along(0b10010, k), sizes[k]);
        }

        says("CORNER k of it, k 0 .. C plus R, is where it is behind k STEPS");
        due(g.along(0b11000, 0), 0);
        due(g.along(0b11000, 3), 4);
        due(g.along(0b11000, 4), 3);
        due(g.along(0b11000, 5), 0);
        for (int no : new int[] {-1, 6, 7, 32, 33, 64, LEAST, GREATEST}) {
            due(g.along(0b11000, no), BAD);
        }
        g = of("11;3");
        due(g.along(1, 1), 0);
        due(g.along(2, 1), 3);
        due(g.along(2, 2), 0);
        due(g.along(2, 3), BAD);
        g = of(ALL_3);
        due(g.along(0b1111100000, 5), 75);
        due(g.along(0b1111100000, 10), 0);
        due(g.along(0b0000011111, 5), 0);
        due(g.along(0b0101010101, 8), 12);
        due(g.along(0b0101010101, 11), BAD);

        says("SIZE of the SHAPE of CORNER k of a PATH. BAD: path, k.");
        // CORNERS 05, 15, .., 55, 54, .., 50.
        for (int k = 0; k <= 10; k++) {
            due(g.along(0b1111100000, k), k <= 5 ? 15 * k : 15 * (10 - k));
        }
        g.rule(1);
        due(g.along(0b1111100000, 5), 25);
        due(g.along(-1, -1), BAD);
    }

    private static void noPaths() {
        says("bits beyond are 0");
        GrowthGrid g = of("32;010;201");
        for (int path : new int[] {0b110010, 0b1010010, 1 << 30 | 0b10010, LEAST | 0b10010, -1, LEAST}) {
            for (int k = 0; k <= 5; k++) {
                due(g.along(path, k), BAD);
            }
        }
        // As many bits down, but one of them beyond.
        due(g.along(0b100001, 0), BAD);
        due(g.along(LEAST | 1, 0), BAD);
        due(g.along(1 << 16 | 1, 0), BAD);

        says("A PATH must have just the steps told to the right and down.");
        for (int path : new int[] {0, 1, 0b10000, 0b111, 0b11100, 0b11111, 0b1111}) {
            for (int k = 0; k <= 5; k++) {
                due(g.along(path, k), BAD);
            }
        }
        g.grid(5, 5);
        due(g.along(0b1111100001, 0), BAD);
        due(g.along(0b1111000000, 0), BAD);
        due(g.along(0b11111000000, 0), BAD);
        due(g.along(GREATEST, 0), BAD);
    }

    // ---- the rim

    private static void levelSteps() {
        says("if for each i PART i of b is not less than PART i of a, and that not less than PART i plus 1 of b");
        // TOP: 1, then 1 1, where PART 1 is as great as PART 0 was.
        due(of("21;11", 3).fits(2), 1);
        // TOP: 1 1, where PART 1 is above PART 0 as it was.
        due(of("11;2", 3).fits(2), 0);
        // TOP: 1, 2, 2 1 1, which is wrong at PART 2 alone.
        GrowthGrid g = of("32;010;102", 3);
        due(shapeOf(g, 2, 2), "2");
        due(shapeOf(g, 3, 2), "2 1 1");
        due(g.fits(2), 0);
        due(g.fits(3), 1);
        // RIGHT: 2, then 2 2, where PART 1 is as great as PART 0 was.
        g = of("32;110;002");
        due(shapeOf(g, 3, 1), "2");
        due(shapeOf(g, 3, 2), "2 2");
        due(g.fits(0), 1);
        due(of("22;11;11").fits(0), 1);
    }

    private static void uprightSteps() {
        says("It goes on UPRIGHT, if for each i PART i of b is PART i of a, or 1 more.");
        // TOP: 1, 2; RIGHT: 2.
        due(of("21;11").fits(1), 1);
        due(of("21;11").fits(3), 0);
        // TOP: 2.
        due(of("11;2").fits(1), 0);
        due(of("11;2").fits(2), 0);
        due(of("11;1").fits(1), 1);
        // TOP: 1, 2, 2 2, which is wrong at PART 1 alone.
        due(of("32;110;002").fits(1), 0);
        // TOP: 1, 2, 2 1: each PART the same or 1 more.
        due(of("32;110;001").fits(1), 1);
        due(of("31;333", 3).fits(3), 1);
    }

    private static void dueFits(GrowthGrid g, int... want) {
        for (int q = 0; q <= 3; q++) {
            due(g.fits(q), want[q]);
        }
    }

    private static void rulesOfTheRim() {
        says("goes on LEVEL (by RULES 0 and 2), UPRIGHT (by 1 and 3), and RIGHT likewise LEVEL (by 0 and 1), UPRIGHT (by 2 and 3)");
        dueFits(of("11;1"), 1, 1, 1, 1);
        dueFits(of("11;2"), 1, 0, 0, 0);
        dueFits(of("11;2", 3), 0, 0, 0, 1);
        dueFits(of("21;11"), 1, 1, 0, 0);
        dueFits(of("21;11", 3), 0, 0, 1, 1);
        dueFits(of("12;1;1"), 1, 0, 1, 0);
        dueFits(of("12;1;1", 3), 0, 1, 0, 1);
        dueFits(of("22;11;11", 1), 0, 1, 0, 0);
        dueFits(of("22;11;11", 2), 0, 0, 1, 0);
        dueFits(new GrowthGrid(), 1, 1, 1, 1);

        says("Whether THE RIM, as it is by RULE, FITS a RULE (1, 0). BAD.");
        for (int no : new int[] {-1, 4, 5, LEAST, GREATEST}) {
            due(new GrowthGrid().fits(no), BAD);
        }
        for (int rule = 0; rule <= 3; rule++) {
            due(of(ALL_3, rule).fits(rule), 1);
        }
    }

    private static void orderOfTheRim() {
        says("THE RIM is looked at from each SHAPE to the next one in the order told.");
        // Only the first, the middle or the last step of TOP is wrong.
        due(of("31;200", 3).fits(2), 0);
        due(of("31;020", 3).fits(2), 0);
        due(of("31;002", 3).fits(2), 0);
        due(of("31;101", 3).fits(2), 1);
        due(of("31;200").fits(1), 0);
        due(of("31;020").fits(1), 0);
        due(of("31;002").fits(1), 0);
        due(of("31;101").fits(1), 1);
        // Only that of RIGHT is.
        due(of("13;0;0;2", 3).fits(1), 0);
        due(of("13;0;2;0", 3).fits(1), 0);
        due(of("13;2;0;0", 3).fits(1), 0);
        due(of("13;1;0;1", 3).fits(1), 1);
        due(of("13;0;0;2").fits(2), 0);
        due(of("13;0;2;0").fits(2), 0);
        due(of("13;2;0;0").fits(2), 0);
        due(of("13;1;0;1").fits(2), 1);
    }

    private static void rimAsItIs() {
        says("THE RIM: SHAPES of (0, R), (1, R), .., (C, R) (TOP), and of (C, 0), (C, 1), .., (C, R) (RIGHT).");
        // TOP 1, 2 1 is upright, though inside, along row 1, there is a step to 2.
        due(of("22;10;02").fits(1), 1);
        due(of("22;20;01").fits(2), 1);
        // The rim is another one by another rule.
        GrowthGrid g = of("22;11;11");
        due(g.fits(0), 1);
        g.rule(3);
        due(g.fits(0), 0);
        due(g.fits(3), 1);
        g.rule(0);
        due(g.fits(0), 1);
        due(g.fits(3), 0);
    }

    // ---- back

    private static void backByZero() {
        says("by q 0: O is the lesser of A and B, less c; then c becomes N less the greater of A and B");
        GrowthGrid g = of("33;001;011;111", 1);
        due(g.back(0), 7);
        due(textOf(g), "33;100;020;003");
        due(shapeOf(g, 3, 3), "3 2 1");
        g = of("22;01;11", 1);
        due(g.back(0), 4);
        due(textOf(g), "22;10;02");
        g = of("33;012;300;023");
        due(g.back(0), 0);
        due(textOf(g), "33;012;300;023");

        says("The NUMBERS are these m then, and RULE is q.");
        g = of("33;001;011;111", 1);
        g.back(0);
        due(g.count(2), 0);
        due(g.count(6), 6);
        due(g.cell(3, 1), 3);
        due(g.cell(1, 1), 0);
    }

    private static void backByOneAndTwo() {
        says("By q 1: O is the lesser of A and (B less c); then c becomes N less the greater of A and (B less c, with c as it was).");
        GrowthGrid g = of("33;100;020;003");
        due(g.back(1), 7);
        due(textOf(g), "33;001;011;111");
        due(g.count(2), 1);
        g = of("33;110;101;011", 1);
        due(g.back(1), 0);
        due(textOf(g), "33;110;101;011");
        // NUMBERS above 1 were worth 1.
        g = of("33;320;201;023", 1);
        due(g.back(1), 5);
        due(textOf(g), "33;110;101;011");

        says("By q 2: as by 1, but with B for A and A for B.");
        g = of("33;300;020;001");
        due(g.back(2), 7);
        due(textOf(g), "33;111;110;100");
        due(g.count(2), 2);
        g = of("33;110;101;011", 2);
        due(g.back(2), 0);
        due(textOf(g), "33;110;101;011");
    }

    private static void backByThree() {
        says("By q 3: e is 1, if N, A, B are the same, else 0; d is the lesser of c and e; O is the lesser of A and B, less d; "
                + "then c becomes c less d, plus N, less the greater of A and B.");
        GrowthGrid g = of("22;11;01");
        due(g.back(3), 4);
        due(textOf(g), "22;02;10");
        due(g.count(2), 3);
        due(shapeOf(g, 2, 2), "2 1");
        g = of("33;012;300;023", 3);
        due(g.back(3), 0);
        due(textOf(g), "33;012;300;023");
        g = of(ALL_3, 3);
        due(g.back(3), 0);
        due(textOf(g), ALL_3);
    }

    private static void backAboveThree() {
        says("back() changes nothing where a NUMBER would be above 3");
        GrowthGrid g = of("44;0001;0011;0111;1111", 1);
        due(shapeOf(g, 4, 4), "4 3 2 1");
        due(shapeOf(g, 2, 2), "2 1");
        due(g.fits(0), 1);
        String before = stateOf(g);
        due(g.back(0), STATE);
        due(stateOf(g), before);
        due(shapeOf(g, 2, 2), "2 1");
        due(shapeOf(g, 3, 3), "3 2 1");
        due(g.undo(), 1);
        due(g.back(0), 0);
        // What can be done again still can be.
        g = of("44;0001;0011;0111;1111", 1);
        g.rule(1);
        g.undo();
        due(g.back(0), STATE);
        due(g.count(4), 1);
        due(g.again(), 0);
        // One that is 3 is none above 3.
        due(of("33;001;011;111", 1).back(0), 7);
    }

    private static void backWhereNumbersStay() {
        says("makes the RULE its own also if NUMBERS stay");
        GrowthGrid g = of("22;10;01");
        for (int q = 3; q >= 0; q--) {
            due(g.back(q), 0);
            due(g.count(2), q);
            due(textOf(g), "22;10;01");
        }
        g = new GrowthGrid();
        due(g.back(3), 0);
        due(g.count(2), 3);
        due(g.count(3), 1);

        says("how many CELLS have another NUMBER than ahead of it");
        due(of("22;11;01").back(1), 0);
        due(of("11;3", 1).back(1), 1);
        due(of("11;2", 2).back(0), 1);
        due(of("32;010;201", 1).back(1), 1);
    }

    private static void backRefused() {
        says("BAD; STATE: THE RIM does not FIT it, or a NUMBER would be above 3.");
        GrowthGrid g = of("22;11;11", 1);
        String before = stateOf(g);
        for (int q = 0; q <= 3; q++) {
            if (q != 1) {
                due(g.back(q), STATE);
            }
        }
        for (int no : new int[] {-1, 4, 5, LEAST, GREATEST}) {
            due(g.back(no), BAD);
        }
        due(stateOf(g), before);
        due(shapeOf(g, 1, 2), "1 1");
    }

    private static void rimBehindBack() {
        says("OLD's SHAPE and a number m come from NEW, LEFT and LOW (of THE RIM, or found ahead)");
        for (String text : TEXTS) {
            for (int rule = 0; rule <= 3; rule++) {
                for (int q = 0; q <= 3; q++) {
                    dueSameRim(of(text, rule), q);
                }
            }
        }

        says("(PARTS of OLD beyond are 0.)");
        GrowthGrid g = of(ALL_3, 3);
        due(g.shape(5, 5, 1), 27);
        g.grid(3, 3);
        g.word(321);
        g.put(2, 2, 0);
        due(g.shape(3, 3, 1), 2);
        due(g.back(3), 0);
        due(textOf(g), "33;100;000;001");
        due(shapeOf(g, 2, 2), "");
        due(shapeOf(g, 2, 3), "1");
        due(shapeOf(g, 3, 3), "1 1");
    }

    private static void dueSameRim(GrowthGrid g, int q) {
        String rim = rimOf(g), text = textOf(g);
        int fits = g.fits(q), other = g.back(q);
        if (fits == 0 || other == STATE) {
            due(other, STATE);
            due(textOf(g), text);
        } else {
            due(g.count(2), q);
            due(other, otherSigns(text, textOf(g)));
        }
        due(rimOf(g), rim);
    }

    private static String rimOf(GrowthGrid g) {
        int columns = g.count(0), rows = g.count(1);
        StringBuilder s = new StringBuilder();
        for (int x = 0; x <= columns; x++) {
            s.append(shapeOf(g, x, rows)).append(", ");
        }
        for (int y = 0; y <= rows; y++) {
            s.append(shapeOf(g, columns, y)).append(", ");
        }
        return s.toString();
    }

    private static int otherSigns(String a, String b) {
        int n = 0;
        for (int k = 0; k < a.length(); k++) {
            n += a.charAt(k) != b.charAt(k) ? 1 : 0;
        }
        return n;
    }
}
