import java.io.IOException;
import java.nio.file.Files;
import java.nio.file.Path;

/**
 * What the tests that go through the document sentence by sentence have in common: says() names
 * the words that the checks behind it are for, and looks whether the document still has them.
 */
abstract class Sentences {
    static final int BAD = -1, NOT = -2, FULL = -3, STATE = -5, WIDE = -6;
    static final int NOTHING = -11, KIND = -12, NO_PLACE = -13, BELOW = -14;
    static final long NO = Long.MIN_VALUE;
    static final int LEAST = Integer.MIN_VALUE, GREATEST = Integer.MAX_VALUE;

    private static final String DOCUMENT = withSingleSpaces(textOfDocument());
    private static String words = null;
    private static int checks = 0;
    private static int sentences = 0;
    private static int wrong = 0;

    private static String textOfDocument() {
        try {
            return Files.readString(Path.of("../shared/DOC.md"));
        } catch (IOException e) {
            throw new IllegalStateException("there is no ../shared/DOC.md", e);
        }
    }

    private static String withSingleSpaces(String text) {
        return text.replaceAll("\\s+", " ");
    }

    /** The checks from here to the next says() are for these words of the document. */
    static void says(String these) {
        closeSentence();
        words = these;
        checks = 0;
        sentences++;
        if (!DOCUMENT.contains(withSingleSpaces(these))) {
            tell("the document does not say: " + these);
        }
    }

    private static void closeSentence() {
        if (words != null && checks == 0) {
            tell("no check for: " + words);
        }
    }

    private static void tell(String what) {
        wrong++;
        System.out.println(what);
    }

    static void due(long got, long want) {
        checks++;
        if (got != want) {
            tell("\"" + words + "\", line " + lineOfTest() + ": " + got + ", due is " + want);
        }
    }

    static void due(String got, String want) {
        checks++;
        if (!got.equals(want)) {
            tell("\"" + words + "\", line " + lineOfTest() + ": " + got + ", due is " + want);
        }
    }

    /** That of the first caller outside this class. */
    private static int lineOfTest() {
        for (StackTraceElement e : new Throwable().getStackTrace()) {
            if (!e.getClassName().equals(Sentences.class.getName())) {
                return e.getLineNumber();
            }
        }
        return 0;
    }

    static void end() {
        closeSentence();
        System.out.println(wrong == 0 ? sentences + " sentences hold" : wrong + " answers are not as due");
        if (wrong != 0) {
            System.exit(1);
        }
    }

    // ---- grids and their texts

    static GrowthGrid of(String text) {
        GrowthGrid g = new GrowthGrid();
        feed(g, text);
        g.read();
        return g;
    }

    static GrowthGrid of(String text, int rule) {
        GrowthGrid g = of(text);
        g.rule(rule);
        return g;
    }

    static void feed(GrowthGrid g, String text) {
        for (int i = 0; i < text.length(); i++) {
            g.feed(text.charAt(i), 1);
        }
    }

    static String textOf(GrowthGrid g) {
        int columns = g.count(0), rows = g.count(1);
        StringBuilder s = new StringBuilder().append(columns).append(rows);
        for (int y = rows; y >= 1; y--) {
            s.append(';');
            for (int x = 1; x <= columns; x++) {
                s.append(g.cell(x, y));
            }
        }
        return s.toString();
    }

    /** The parts above 0 of a corner's shape, as in "3 1"; for an empty one "". */
    static String shapeOf(GrowthGrid g, int x, int y) {
        StringBuilder s = new StringBuilder();
        int part = g.part(x, y, 0);
        for (int i = 1; i <= 100 && part != 0; i++) {
            s.append(i > 1 ? " " : "").append(part);
            part = g.part(x, y, i);
        }
        return s.toString();
    }

    /** All that some seventy calls tell of an object without changing it. */
    static String stateOf(GrowthGrid g) {
        StringBuilder s = new StringBuilder(textOf(g));
        for (int what = 2; what <= 6; what++) {
            s.append(' ').append(g.count(what));
        }
        s.append(" [").append(shapeOf(g, g.count(0), g.count(1))).append(']');
        for (int h = 0; h <= 5; h++) {
            s.append(' ').append(g.taken(h, 0)).append(',').append(g.was(h, 0)).append(',').append(g.get(h, 0));
        }
        return s.toString();
    }
}
