import java.util.Arrays;
import java.util.Random;

/** Long runs of calls by seeds, answered by the class and by the model; what both hold is compared behind each. */
final class ModelRuns {
    private static final int RUNS = 8000;
    // what an object answers behind 512 calls is free; a LAND, papers and a call take fewer than the rest
    private static final int CALLS_OF_ONE_OBJECT = 512, CALLS_OF_ONE_STEP = 90;
    private static final int[] ODD = {-1, 0, 1, 40, 41, 60, 61, 99, 100, Integer.MIN_VALUE, Integer.MAX_VALUE,
        Integer.MAX_VALUE - 1, Integer.MIN_VALUE + 1, 255, 256, -128, 127, 65536};
    private static final String[] CALL = {"row", "lay", "at", "tear", "copy", "mean", "text", "put", "fault", "land",
        "one", "mark", "coast", "year", "step", "walk", "undo", "keep", "on", "belong", "laws", "seats", "fewest",
        "then", "when", "round", "duel", "peace", "way", "far", "kinds", "spots", "odds", "mid", "lots", "asked",
        "upper", "lower", "count", "finding", "findings", "digest"};
    /** The greatest number that each argument of a call has, as told, or one more. */
    private static final int[][] ROOM = {{6, 41}, {6, 8, 9}, {6, 8}, {6}, {6, 8, 6, 8, 8}, {6}, {4, 61}, {4, 12, 122},
        {4}, {4}, {6, 6}, {6, 6}, {6}, {}, {2, 2}, {6, 9}, {40}, {3}, {3}, {}, {}, {21, 6}, {}, {31}, {9, 10}, {},
        {7}, {100, 6}, {9, 9}, {9}, {6, 6}, {6, 6}, {40, 13}, {13}, {21, 99999}, {}, {}, {}, {11}, {}, {6}, {}};

    private final Random random;
    private final ShyStrip x = new ShyStrip();
    private final Model m = new Model();
    private final StringBuilder told = new StringBuilder();
    private boolean unlike = false;
    private int calls = 0;

    private ModelRuns(long seed) {
        random = new Random(seed);
    }

    static void run(Check check) {
        int[] answered = new int[CALL.length];
        int slips = 0;
        check.promise(43);
        for (int seed = 1; seed <= RUNS; seed++) {
            String slip = new ModelRuns(seed).slip(answered);
            slips += slip == null ? 0 : 1;
            if (slip != null && slips <= 3) {
                System.out.println("run of seed " + seed + ": " + slip);
            }
        }
        check.due("slips in runs with the model", slips, 0);
        for (int c = 0; c < CALL.length; c++) {
            check.due(CALL[c] + "() was answered, not refused, often enough", answered[c] >= 500 ? 1 : 0, 1);
        }
    }

    /** What was told unlike; null: nothing. */
    private String slip(int[] answered) {
        layRows();
        for (int c = 0; calls + CALLS_OF_ONE_STEP <= CALLS_OF_ONE_OBJECT; c++) {
            if (random.nextInt(12) == 0 || c == 0) {
                writeLand();
            }
            int call = random.nextInt(CALL.length);
            int[] a = arguments(call);
            told.append(CALL[call]).append(Arrays.toString(a)).append(' ');
            long got = ofClass(call, a);
            long due = ofModel(call, a);
            calls += 5;
            answered[call] += due >= 0 || due == ShyStrip.NONE ? 1 : 0;
            if (unlike || got != due || x.asked() != m.asked() || x.upper() != m.upper() || x.lower() != m.lower()
                    || x.finding() != m.finding() || x.digest() != m.digest()) {
                return told + "answered " + got + ", due is " + due + ", asked() " + x.asked() + ", due is " + m.asked();
            }
        }
        return null;
    }

    private int[] arguments(int call) {
        int[] a = new int[ROOM[call].length];
        for (int i = 0; i < a.length; i++) {
            a[i] = random.nextInt(25) == 0 ? ODD[random.nextInt(ODD.length)] : random.nextInt(ROOM[call][i] + 1);
        }
        if (CALL[call].equals("step") && random.nextInt(9) != 0) {
            a[0] = random.nextInt(2);
            a[1] = random.nextInt(2) * 2 - 1;
        }
        if (CALL[call].equals("walk") && random.nextInt(4) != 0) {
            both("one", a[0], 1);
            a[1] = m.asked() + random.nextInt(2) * 2 - 1;
        }
        if (CALL[call].equals("when") && random.nextInt(3) == 0) {
            int n = random.nextInt(12);
            both("then", n);
            int coasts = Math.max(0, m.then(n));
            a[0] = coasts / 10;
            a[1] = coasts % 10;
        }
        if (CALL[call].equals("copy") && random.nextBoolean()) {
            a = new int[] {random.nextInt(6), random.nextInt(3), random.nextInt(6), random.nextInt(3), random.nextInt(4)};
        }
        if (CALL[call].equals("lots") && random.nextBoolean()) {
            a[1] = 1 + random.nextInt(2147483646);
        }
        if ((CALL[call].equals("kinds") || CALL[call].equals("spots")) && random.nextInt(5) != 0) {
            writePapers(a[1]);
        }
        return a;
    }

    private void layRows() {
        for (int r = 0; r < 6; r++) {
            int n = random.nextInt(9);
            both("row", r, n);
            for (int i = 0; i < n; i++) {
                both("lay", r, i, random.nextInt(4) == 0 ? random.nextInt() : random.nextInt(99));
            }
            if (n == 8) {
                both("tear", r);
            }
        }
    }

    private void writeLand() {
        int n = 3 + random.nextInt(7);
        int west = random.nextInt(n + 1);
        int east = west + random.nextInt(n - west + 1);
        StringBuilder text = new StringBuilder(blanks()).append('n').append(n).append(west).append(east);
        text.append(random.nextInt(8)).append(random.nextInt(8));
        int people = 1 + random.nextInt(6);
        for (int i = 0; i < people; i++) {
            text.append(blanks()).append("polhtf".charAt(random.nextInt(6))).append(random.nextInt(n));
            text.append(random.nextInt(10)).append(random.nextInt(8));
        }
        text.append(blanks());
        spoil(text);
        int t = random.nextInt(4);
        both("text", t, text.length());
        for (int i = 0; i < text.length(); i++) {
            both("put", t, i, text.charAt(i));
        }
        both("fault", t);
        both("land", t);
        if (random.nextBoolean()) {
            both("keep", random.nextInt(3));
        }
    }

    /** Some texts have a byte wrong, or end too early, or go on. */
    private void spoil(StringBuilder text) {
        int how = random.nextInt(12);
        int place = random.nextInt(text.length());
        if (how == 0) {
            text.setCharAt(place, (char) random.nextInt(256));
        } else if (how == 1) {
            text.setCharAt(place, " polhtfn0123456789".charAt(random.nextInt(18)));
        } else if (how == 2) {
            text.setLength(place);
        } else if (how == 3) {
            text.insert(place, " polhtfn0123456789".charAt(random.nextInt(18)));
        } else if (how == 4) {
            text.append("p000").append(blanks());
        }
        text.setLength(Math.min(text.length(), 60));
    }

    private String blanks() {
        return " ".repeat(random.nextInt(3));
    }

    private void writePapers(int r) {
        int many = random.nextInt(4);
        int cells = Math.max(3, m.count(1));
        both("row", r, 3 * many);
        for (int p = 0; p < many; p++) {
            int west = random.nextInt(cells + 1);
            both("lay", r, 3 * p, west);
            both("lay", r, 3 * p + 1, west + random.nextInt(cells - west + 1));
            both("lay", r, 3 * p + 2, random.nextInt(2));
        }
    }

    private void both(String call, int... a) {
        int c = Arrays.asList(CALL).indexOf(call);
        told.append(call).append(Arrays.toString(a)).append(' ');
        if (ofClass(c, a) != ofModel(c, a)) {
            told.append("(unlike) ");
            unlike = true;
        }
    }

    private long ofClass(int call, int[] a) {
        calls++;
        return switch (call) {
            case 0 -> x.row(a[0], a[1]);
            case 1 -> x.lay(a[0], a[1], a[2]);
            case 2 -> x.at(a[0], a[1]);
            case 3 -> x.tear(a[0]);
            case 4 -> x.copy(a[0], a[1], a[2], a[3], a[4]);
            case 5 -> x.mean(a[0]);
            case 6 -> x.text(a[0], a[1]);
            case 7 -> x.put(a[0], a[1], a[2]);
            case 8 -> x.fault(a[0]);
            case 9 -> x.land(a[0]);
            case 10 -> x.one(a[0], a[1]);
            case 11 -> x.mark(a[0], a[1]);
            case 12 -> x.coast(a[0]);
            case 13 -> x.year();
            case 14 -> x.step(a[0], a[1]);
            case 15 -> x.walk(a[0], a[1]);
            case 16 -> x.undo(a[0]);
            case 17 -> x.keep(a[0]);
            case 18 -> x.on(a[0]);
            case 19 -> x.belong();
            case 20 -> x.laws();
            case 21 -> x.seats(a[0], a[1]);
            case 22 -> x.fewest();
            case 23 -> x.then(a[0]);
            case 24 -> x.when(a[0], a[1]);
            case 25 -> x.round();
            case 26 -> x.duel(a[0]);
            case 27 -> x.peace(a[0], a[1]);
            case 28 -> x.way(a[0], a[1]);
            case 29 -> x.far(a[0]);
            case 30 -> x.kinds(a[0], a[1]);
            case 31 -> x.spots(a[0], a[1]);
            case 32 -> x.odds(a[0], a[1]);
            case 33 -> x.mid(a[0]);
            case 34 -> x.lots(a[0], a[1]);
            case 35 -> x.asked();
            case 36 -> x.upper();
            case 37 -> x.lower();
            case 38 -> x.count(a[0]);
            case 39 -> x.finding();
            case 40 -> x.findings(a[0]);
            default -> x.digest();
        };
    }

    private long ofModel(int call, int[] a) {
        return switch (call) {
            case 0 -> m.row(a[0], a[1]);
            case 1 -> m.lay(a[0], a[1], a[2]);
            case 2 -> m.at(a[0], a[1]);
            case 3 -> m.tear(a[0]);
            case 4 -> m.copy(a[0], a[1], a[2], a[3], a[4]);
            case 5 -> m.mean(a[0]);
            case 6 -> m.text(a[0], a[1]);
            case 7 -> m.put(a[0], a[1], a[2]);
            case 8 -> m.fault(a[0]);
            case 9 -> m.land(a[0]);
            case 10 -> m.one(a[0], a[1]);
            case 11 -> m.mark(a[0], a[1]);
            case 12 -> m.coast(a[0]);
            case 13 -> m.year();
            case 14 -> m.step(a[0], a[1]);
            case 15 -> m.walk(a[0], a[1]);
            case 16 -> m.undo(a[0]);
            case 17 -> m.keep(a[0]);
            case 18 -> m.on(a[0]);
            case 19 -> m.belong();
            case 20 -> m.laws();
            case 21 -> m.seats(a[0], a[1]);
            case 22 -> m.fewest();
            case 23 -> m.then(a[0]);
            case 24 -> m.when(a[0], a[1]);
            case 25 -> m.round();
            case 26 -> m.duel(a[0]);
            case 27 -> m.peace(a[0], a[1]);
            case 28 -> m.way(a[0], a[1]);
            case 29 -> m.far(a[0]);
            case 30 -> m.kinds(a[0], a[1]);
            case 31 -> m.spots(a[0], a[1]);
            case 32 -> m.odds(a[0], a[1]);
            case 33 -> m.mid(a[0]);
            case 34 -> m.lots(a[0], a[1]);
            case 35 -> m.asked();
            case 36 -> m.upper();
            case 37 -> m.lower();
            case 38 -> m.count(a[0]);
            case 39 -> m.finding();
            case 40 -> m.findings(a[0]);
            default -> m.digest();
        };
    }
}
