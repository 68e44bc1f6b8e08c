import java.lang.reflect.Method;
import java.util.ArrayList;
import java.util.Comparator;
import java.util.List;
import java.util.Random;
import java.util.TreeMap;
import java.util.TreeSet;

/**
 * Runs of up to 512 calls by chance (always the same ones) on the class and on GrowthModel, and
 * runs over all marked grids of five columns and rows.
 */
public final class ModelTest {
    private static final int RUNS = 1500, CALLS = 512;
    private static final int[] ODD = {-1, -2, 6, 7, 10, 30, 31, 99, 100, 1000, Integer.MIN_VALUE, Integer.MAX_VALUE};

    private final Random random;
    private final GrowthGrid grid = new GrowthGrid();
    private final GrowthModel model = new GrowthModel();
    private final StringBuilder told = new StringBuilder();
    private int calls = 0;
    private static final TreeMap<String, TreeSet<Long>> SEEN = new TreeMap<>();
    private static final List<Method> METHODS = publicMethods();

    private ModelTest(long seed) {
        random = new Random(seed);
    }

    private static List<Method> publicMethods() {
        List<Method> all = new ArrayList<>(List.of(GrowthGrid.class.getDeclaredMethods()));
        all.removeIf(m -> !java.lang.reflect.Modifier.isPublic(m.getModifiers()));
        all.sort(Comparator.comparing(Method::getName));
        return all;
    }

    public static void main(String[] args) throws Exception {
        for (int run = 0; run < RUNS; run++) {
            new ModelTest(run).runByChance(run % 5);
        }
        for (int rule = 0; rule < 4; rule++) {
            for (int w = 0; w <= 55555; w++) {
                if (isMarkedWord(w)) {
                    new ModelTest(w).runOverMarked(w, rule);
                }
            }
        }
        for (String name : SEEN.keySet()) {
            if (SEEN.get(name).size() < 2) {
                fail(name + " was not tried enough");
            }
        }
        System.out.println("all answers are those of the model");
    }

    private static boolean isMarkedWord(int w) {
        int used = 0;
        for (int rest = w; rest > 0; rest /= 10) {
            int d = rest % 10;
            if (d > 5 || d > 0 && (used >> d & 1) != 0) {
                return false;
            }
            used |= d > 0 ? 1 << d : 0;
        }
        return true;
    }

    private void runOverMarked(int w, int rule) throws Exception {
        call("grid", 5, 5);
        call("word", w);
        call("rule", rule);
        for (int k = 1; k <= 5; k++) {
            call("union", k, 1);
            call("union", k, 3);
        }
        for (int what = 0; what < 2; what++) {
            for (int kind = 0; kind < 4; kind++) {
                call("longest", kind, what);
            }
        }
        for (int q = 0; q < 4; q++) {
            call("back", q);
            call("spelled");
        }
    }

    private void runByChance(int kind) throws Exception {
        if (kind > 0) {
            call("grid", 1 + random.nextInt(5), 1 + random.nextInt(5));
        }
        if (kind == 4) {
            call("grid", 5, 5);
            fillAll();
        }
        while (calls < CALLS) {
            switch (random.nextInt(24)) {
                case 0 -> feedText();
                case 1 -> growAndGoBack();
                case 2, 3, 4 -> putSome(kind);
                case 5 -> holdAndJudge();
                case 6 -> undoAndDoAgain();
                default -> callByChance();
            }
        }
    }

    private void fillAll() throws Exception {
        for (int x = 1; x <= 5; x++) {
            for (int y = 1; y <= 5; y++) {
                call("put", x, y, 3);
            }
        }
    }

    private void putSome(int kind) throws Exception {
        for (int n = random.nextInt(8); n > 0 && calls < CALLS; n--) {
            int most = kind == 1 ? 2 : 4;
            call("put", 1 + random.nextInt(5), 1 + random.nextInt(5), random.nextInt(most));
        }
    }

    private void growAndGoBack() throws Exception {
        if (calls + 50 > CALLS) {
            callByChance();
            return;
        }
        call("rule", random.nextInt(4));
        int q = random.nextInt(4);
        call("fits", q);
        call("back", q);
        for (int x = 1; x <= 5; x++) {
            for (int y = 1; y <= 5; y++) {
                call("cell", x, y);
            }
        }
    }

    private void feedText() throws Exception {
        StringBuilder text = new StringBuilder();
        int c = 1 + random.nextInt(5), r = 1 + random.nextInt(5);
        text.append(c).append(r);
        for (int y = 0; y < r; y++) {
            text.append(';');
            for (int x = 0; x < c; x++) {
                text.append(random.nextInt(4));
            }
        }
        int spoil = random.nextInt(6);
        int at = random.nextInt(text.length());
        if (spoil == 0) {
            text.setLength(at);
        } else if (spoil == 1) {
            text.append(';');
        } else if (spoil == 2) {
            text.setCharAt(at, "046;:/3 \u00b1\u00bb\u0000".charAt(random.nextInt(11)));
        }
        call("wipe");
        int p = 0;
        while (p < text.length() && calls < CALLS) {
            int n = Math.min(text.length() - p, 1 + random.nextInt(4));
            int v = random.nextInt();
            for (int i = 0; i < n; i++) {
                v = v << 8 | text.charAt(p + i);
            }
            call("feed", v, n);
            p += n;
        }
        if (calls < CALLS) {
            call("read");
        }
    }

    private void undoAndDoAgain() throws Exception {
        if (calls + 40 > CALLS) {
            callByChance();
            return;
        }
        for (int n = random.nextInt(10); n > 0; n--) {
            call("undo");
            call("count", 6);
        }
        for (int n = random.nextInt(10); n > 0; n--) {
            call("again");
            call("spelled");
        }
    }

    /** A row with the very parts of a shape, and then with one of them changed. */
    private void holdAndJudge() throws Exception {
        int h = random.nextInt(6), x = random.nextInt(4), y = random.nextInt(4);
        int n = random.nextInt(12);
        if (calls + 20 > CALLS) {
            callByChance();
            return;
        }
        call("row", h, n);
        for (int i = 0; i < n; i++) {
            call("set", h, i, model.part(x, y, i));
        }
        call("judge", h, x, y);
        if (random.nextBoolean()) {
            call("set", h, random.nextInt(12), random.nextInt(3));
            call("judge", h, x, y);
        }
    }

    private void callByChance() throws Exception {
        Method m = METHODS.get(random.nextInt(METHODS.size()));
        int[] args = new int[m.getParameterCount()];
        for (int k = 0; k < args.length; k++) {
            args[k] = random.nextInt(25) == 0 ? oddNumber() : usualNumber(m.getName(), k);
        }
        call(m.getName(), args);
    }

    private int oddNumber() {
        return random.nextInt(8) == 0 ? random.nextInt() : ODD[random.nextInt(ODD.length)];
    }

    private int usualNumber(String name, int k) {
        switch (name) {
            case "word":
                return random.nextInt(new int[] {10, 100, 1000, 10000, 60000}[random.nextInt(5)]);
            case "along":
                return k == 0 ? pathByChance() : random.nextInt(12);
            case "corner":
                return random.nextInt(38);
            case "feed":
                return k == 0 ? random.nextInt() : random.nextInt(5);
            case "row":
                return k == 0 ? random.nextInt(6) : random.nextInt(32);
            case "set", "get":
                return k == 0 ? random.nextInt(6) : random.nextInt(10);
            case "union":
                return k == 0 ? 1 + random.nextInt(5) : 1 + 2 * random.nextInt(2);
            case "part", "turned":
                return random.nextInt(k == 2 ? 30 : 5);
            default:
                return random.nextInt(name.equals("grid") ? 7 : 5);
        }
    }

    private int pathByChance() {
        int steps = model.count(0) + model.count(1), path = 0;
        List<Integer> down = new ArrayList<>();
        for (int k = 0; k < steps; k++) {
            down.add(k);
        }
        java.util.Collections.shuffle(down, random);
        for (int k : down.subList(0, model.count(1))) {
            path |= 1 << k;
        }
        return path;
    }

    private void call(String name, int... args) throws Exception {
        Object[] boxed = new Object[args.length];
        Class<?>[] types = new Class<?>[args.length];
        told.append(name).append('(');
        for (int k = 0; k < args.length; k++) {
            boxed[k] = args[k];
            types[k] = int.class;
            told.append(k > 0 ? ", " : "").append(args[k]);
        }
        calls++;
        Object answer = GrowthGrid.class.getMethod(name, types).invoke(grid, boxed);
        Method due = GrowthModel.class.getDeclaredMethod(name, types);
        Object want = due.invoke(model, boxed);
        told.append(") ").append(answer).append('\n');
        SEEN.computeIfAbsent(name, n -> new TreeSet<>()).add(((Number) answer).longValue());
        if (!answer.equals(want)) {
            fail(told + "due is " + want);
        }
    }

    private static void fail(String what) {
        System.out.println(what);
        System.exit(1);
    }
}
