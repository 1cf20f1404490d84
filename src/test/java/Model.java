import java.math.BigInteger;
import java.nio.charset.StandardCharsets;
import java.util.ArrayList;
import java.util.Arrays;
import java.util.Collections;
import java.util.Comparator;
import java.util.LinkedHashMap;
import java.util.List;
import java.util.Map;
import java.util.regex.Matcher;
import java.util.regex.Pattern;

/**
 * The document a second time, by other means (kinds as classes, lands that never change, FAULTS by
 * regular expressions, true fractions), so that a slip in the one is not a slip in the other.
 */
final class Model {
    private static final int BAD = -1, FULL = -2, FINDING = -3, STATE = -4, NONE = -9;
    private static final int NOTHING = 1, BEYOND = 2, UNLIKE = 3, NOUGHT = 4, SIZE = 5;
    private static final String LETTERS = "polhtf";
    private static final Pattern LAND = Pattern.compile(landPattern());

    private final int[][] rows = new int[6][];
    private final byte[][] texts = new byte[4][];
    private final List<List<Land>> kept = new ArrayList<>(Arrays.asList(null, null, null));
    private final Map<Integer, Integer> found = new LinkedHashMap<>();
    /** The LAND as it was at first, and behind each of the DEEDS; empty: no CELLS. */
    private List<Land> past = new ArrayList<>();
    private int asked = 0;
    private int finding = 0;
    private BigInteger upper = BigInteger.ZERO;
    private BigInteger lower = BigInteger.ONE;

    private static String landPattern() {
        List<String> ways = new ArrayList<>();
        for (int n = 3; n <= 9; n++) {
            for (int west = 0; west <= n; west++) {
                ways.add(n + "" + west + "[" + west + "-" + n + "][0-7][0-7]"
                        + "( *[polhtf][0-" + (n - 1) + "][0-9][0-7]){1,6}");
            }
        }
        return " *n(" + String.join("|", ways) + ") *";
    }

    // ---- kinds

    private abstract static class Person {
        final int first, told, would;
        final Land at;

        Person(int first, int told, int would, Land at) {
            this.first = first;
            this.told = told;
            this.would = would;
            this.at = at;
        }

        static Person of(int kind, int first, int told, int would, Land at) {
            return switch (kind) {
                case 0 -> new Plain(first, told, would, at);
                case 1 -> new Out(first, told, would, at);
                case 2 -> new Lady(first, told, would, at);
                case 3 -> new Hare(first, told, would, at);
                case 4 -> new Post(first, told, would, at);
                default -> new Flag(first, told, would, at);
            };
        }

        boolean belongs(int cell) {
            return cell >= at.west && cell < at.east;
        }

        int votes() {
            return told;
        }
    }

    private static class Plain extends Person {
        Plain(int first, int told, int would, Land at) {
            super(first, told, would, at);
        }
    }

    private static class Out extends Person {
        Out(int first, int told, int would, Land at) {
            super(first, told, would, at);
        }

        @Override boolean belongs(int cell) {
            return first >= at.firstWest && first < at.firstEast;
        }
    }

    private static class Lady extends Person {
        Lady(int first, int told, int would, Land at) {
            super(first, told, would, at);
        }

        @Override boolean belongs(int cell) {
            return super.belongs(cell) || super.belongs(cell + 1) || super.belongs(cell - 1)
                    || (at.west == at.east && (cell == at.west || cell + 1 == at.west));
        }

        @Override int votes() {
            return told >> 1;
        }
    }

    private static final class Hare extends Person {
        Hare(int first, int told, int would, Land at) {
            super(first, told, would, at);
        }

        @Override boolean belongs(int cell) {
            return at.east - at.west > 2 && super.belongs(cell);
        }

        @Override int votes() {
            return 1;
        }
    }

    private static final class Post extends Out {
        Post(int first, int told, int would, Land at) {
            super(first, told, would, at);
        }

        @Override boolean belongs(int cell) {
            return super.belongs(cell) && !(cell < at.west);
        }

        @Override int votes() {
            return told + told;
        }
    }

    private static final class Flag extends Lady {
        Flag(int first, int told, int would, Land at) {
            super(first, told, would, at);
        }

        @Override boolean belongs(int cell) {
            return super.belongs(cell) && cell == (at.west + at.east) >> 1;
        }

        @Override int votes() {
            return super.votes() + 1;
        }
    }

    // ---- a land that never changes

    private static final class Land {
        final int n, west, east, firstWest, firstEast, westLaws, eastLaws, year;
        final int[] kinds, cells, firsts, told, would;

        Land(int[] sides, int year, int[] kinds, int[] cells, int[] firsts, int[] told, int[] would) {
            n = sides[0];
            west = sides[1];
            east = sides[2];
            firstWest = sides[3];
            firstEast = sides[4];
            westLaws = sides[5];
            eastLaws = sides[6];
            this.year = year;
            this.kinds = kinds;
            this.cells = cells;
            this.firsts = firsts;
            this.told = told;
            this.would = would;
        }

        Land with(int w, int e, int y) {
            int[] sides = {n, w, e, firstWest, firstEast, westLaws, eastLaws};
            return new Land(sides, y, kinds, cells, firsts, told, would);
        }

        Land walked(int i, int cell) {
            int[] now = cells.clone();
            now[i] = cell;
            int[] sides = {n, west, east, firstWest, firstEast, westLaws, eastLaws};
            return new Land(sides, year, kinds, now, firsts, told, would);
        }

        Person as(int i, int kind) {
            return Person.of(kind, firsts[i], told[i], would[i], this);
        }

        boolean belongs(int i) {
            return as(i, kinds[i]).belongs(cells[i]);
        }

        int votes(int i) {
            return as(i, kinds[i]).votes();
        }

        List<Integer> belonging() {
            List<Integer> who = new ArrayList<>();
            for (int i = 0; i < kinds.length; i++) {
                if (belongs(i)) {
                    who.add(i);
                }
            }
            return who;
        }

        int bits() {
            return belonging().stream().mapToInt(i -> 1 << i).sum();
        }

        int all() {
            return belonging().stream().mapToInt(this::votes).sum();
        }

        int strangers(boolean ofWest) {
            int sum = 0;
            for (int i = 0; i < kinds.length; i++) {
                boolean there = ofWest ? cells[i] < west : cells[i] >= east;
                sum += there && !belongs(i) ? votes(i) : 0;
            }
            return sum;
        }

        Land yearOn() {
            boolean westBack = all() > strangers(true);
            boolean eastBack = all() > strangers(false);
            int w = west;
            int e = east;
            if (westBack && west > 0) {
                w--;
            }
            if (!westBack && west < east) {
                w++;
            }
            if (eastBack && east < n) {
                e++;
            }
            if (!eastBack && west < east) {
                e--;
            }
            if (w > e) {
                e = w;
            }
            return with(w, e, year + 1);
        }

        int coasts() {
            return Integer.parseInt("" + west + east);
        }

        int enter(int c) {
            if (c >= west && c < east) {
                return 1;
            }
            boolean stranger = false;
            for (int i = 0; i < kinds.length; i++) {
                stranger |= cells[i] == c && !belongs(i);
            }
            return (c < west ? 2 : 3) + (stranger ? 1 : 0);
        }

        int way(int from, int to) {
            if (from == to) {
                return 0;
            }
            int next = from < to ? from + 1 : from - 1;
            return enter(next) + way(next, to);
        }

        int far(int from) {
            int sum = 0;
            for (int c = 0; c < n; c++) {
                sum += way(from, c);
            }
            return sum;
        }

        int duel(int turns, boolean ofWest) {
            if (turns == 0) {
                return all();
            }
            List<Integer> ends = new ArrayList<>();
            for (int by = -1; by <= 1; by++) {
                int w = ofWest ? west + by : west;
                int e = ofWest ? east : east + by;
                if (w >= 0 && w <= e && e <= n) {
                    ends.add(with(w, e, year).duel(turns - 1, !ofWest));
                }
            }
            return ofWest ? Collections.min(ends) : Collections.max(ends);
        }
    }

    private Land now() {
        return past.isEmpty() ? null : past.get(past.size() - 1);
    }

    private int people() {
        return past.isEmpty() ? 0 : now().kinds.length;
    }

    private int deeds() {
        return past.isEmpty() ? 0 : past.size() - 1;
    }

    private int cells() {
        return past.isEmpty() ? 0 : now().n;
    }

    private static boolean in(int v, int least, int most) {
        return least <= v && v <= most;
    }

    private int found(int f) {
        finding = f;
        found.merge(f, 1, Integer::sum);
        return FINDING;
    }

    private int tell(int v) {
        asked = v;
        return 1;
    }

    // ---- the calls

    int row(int r, int n) {
        if (!in(r, 0, 5) || n > 40) return BAD;
        if (n < 0) return found(SIZE);
        rows[r] = new int[n];
        return n;
    }

    int lay(int r, int i, int v) {
        if (!in(r, 0, 5)) return BAD;
        if (rows[r] == null) return found(NOTHING);
        if (!in(i, 0, rows[r].length - 1)) return found(BEYOND);
        int was = rows[r][i];
        rows[r][i] = v;
        return tell(was);
    }

    int at(int r, int i) {
        if (!in(r, 0, 5)) return BAD;
        if (rows[r] == null) return found(NOTHING);
        if (!in(i, 0, rows[r].length - 1)) return found(BEYOND);
        return tell(rows[r][i]);
    }

    int tear(int r) {
        if (!in(r, 0, 5)) return BAD;
        if (rows[r] == null) return found(NOTHING);
        rows[r] = null;
        return 1;
    }

    int copy(int r, int i, int to, int j, int n) {
        if (!in(r, 0, 5) || !in(to, 0, 5)) return BAD;
        if (n < 0) return found(SIZE);
        if (rows[r] == null || rows[to] == null) return found(NOTHING);
        if (i < 0 || j < 0 || (long) i + n > rows[r].length || (long) j + n > rows[to].length) return found(BEYOND);
        int[] ahead = rows[r].clone();
        for (int p = 0; p < n; p++) {
            rows[to][j + p] = ahead[i + p];
        }
        return 1;
    }

    int mean(int r) {
        if (!in(r, 0, 5)) return BAD;
        if (rows[r] == null) return found(NOTHING);
        if (rows[r].length == 0) return found(NOUGHT);
        BigInteger sum = BigInteger.ZERO;
        for (int v : rows[r]) {
            sum = sum.add(BigInteger.valueOf(v));
        }
        return tell(sum.divide(BigInteger.valueOf(rows[r].length)).intValueExact());
    }

    int text(int t, int n) {
        if (!in(t, 0, 3) || n > 60) return BAD;
        if (n < 0) return found(SIZE);
        texts[t] = new byte[n];
        Arrays.fill(texts[t], (byte) ' ');
        return n;
    }

    int put(int t, int i, int v) {
        if (!in(t, 0, 3)) return BAD;
        if (texts[t] == null) return found(NOTHING);
        if (!in(i, 0, texts[t].length - 1)) return found(BEYOND);
        int was = texts[t][i];
        texts[t][i] = (byte) v;
        return was + 1000;
    }

    /** The first place behind which no text that begins so can be a LAND's. */
    private static int faultOf(String text) {
        for (int k = 0; k < text.length(); k++) {
            Matcher m = LAND.matcher(text.substring(0, k + 1));
            if (!m.matches() && !m.hitEnd()) {
                return k;
            }
        }
        return LAND.matcher(text).matches() ? NONE : text.length();
    }

    private static String asText(byte[] bytes) {
        return new String(bytes, StandardCharsets.ISO_8859_1);
    }

    int fault(int t) {
        if (!in(t, 0, 3)) return BAD;
        if (texts[t] == null) return found(NOTHING);
        return faultOf(asText(texts[t]));
    }

    int land(int t) {
        if (!in(t, 0, 3)) return BAD;
        if (texts[t] == null) return found(NOTHING);
        if (faultOf(asText(texts[t])) != NONE) return STATE;
        String s = asText(texts[t]).replace(" ", "");
        int west = s.charAt(2) - '0';
        int east = s.charAt(3) - '0';
        int[] sides = {s.charAt(1) - '0', west, east, west, east, s.charAt(4) - '0', s.charAt(5) - '0'};
        int many = (s.length() - 6) / 4;
        int[][] of = new int[4][many];
        for (int i = 0; i < many; i++) {
            of[0][i] = LETTERS.indexOf(s.charAt(6 + 4 * i));
            for (int f = 1; f < 4; f++) {
                of[f][i] = s.charAt(6 + 4 * i + f) - '0';
            }
        }
        past = new ArrayList<>();
        past.add(new Land(sides, 0, of[0], of[1], of[1], of[2], of[3]));
        Collections.fill(kept, null);
        return many;
    }

    private int ofOne(int i, int what) {
        Land l = now();
        int[] all = {l.kinds[i], l.cells[i], l.firsts[i], l.votes(i), l.would[i], l.belongs(i) ? 1 : 0};
        return all[what];
    }

    int one(int i, int what) {
        if (!in(i, 0, people() - 1) || !in(what, 0, 5)) return BAD;
        return tell(ofOne(i, what));
    }

    int mark(int i, int kind) {
        if (!in(i, 0, people() - 1) || !in(kind, 1, 5)) return BAD;
        Land l = now();
        Person who = l.as(i, l.kinds[i]);
        int c = l.cells[i];
        int size = l.east - l.west;
        if (kind == 1 && who instanceof Out) return c == l.firsts[i] ? 0 : 1;
        if (kind == 2 && who instanceof Lady) {
            int least = size == 0 ? Math.abs(c - l.west) : 99;
            for (int s = l.west; s < l.east; s++) {
                least = Math.min(least, Math.abs(c - s));
            }
            return least;
        }
        if (kind == 3 && who instanceof Hare) return size >= 3 ? 0 : 3 - size;
        if (kind == 4 && who instanceof Post) {
            return (int) Arrays.stream(l.cells).filter(other -> other == c).count() - 1;
        }
        if (kind == 5 && who instanceof Flag) return Math.abs(c - (l.west + l.east) / 2);
        return found(UNLIKE);
    }

    int coast(int what) {
        if (!in(what, 0, 5)) return BAD;
        if (past.isEmpty()) return STATE;
        Land l = now();
        int[] all = {l.west, l.east, l.east - l.west, l.all(), l.strangers(true), l.strangers(false)};
        return all[what];
    }

    private int done(Land next) {
        if (deeds() >= 40) return FULL;
        past.add(next);
        return next.east - next.west;
    }

    int year() {
        if (past.isEmpty()) return STATE;
        return done(now().yearOn());
    }

    int step(int side, int by) {
        if (!in(side, 0, 1) || (by != 1 && by != -1)) return BAD;
        if (past.isEmpty()) return STATE;
        Land l = now();
        int w = side == 0 ? l.west - by : l.west;
        int e = side == 1 ? l.east + by : l.east;
        if (w < 0 || w > e || e > l.n) return STATE;
        return done(l.with(w, e, l.year));
    }

    int walk(int i, int cell) {
        if (!in(i, 0, people() - 1) || !in(cell, 0, cells() - 1)) return BAD;
        if (Math.abs(cell - now().cells[i]) != 1) return STATE;
        if (done(now().walked(i, cell)) == FULL) return FULL;
        return ofOne(i, 5);
    }

    int undo(int n) {
        if (!in(n, 0, deeds())) return BAD;
        int undone = deeds() - n;
        if (undone > 0) {
            past = new ArrayList<>(past.subList(0, n + 1));
        }
        return undone;
    }

    int keep(int k) {
        if (!in(k, 0, 2)) return BAD;
        if (past.isEmpty()) return STATE;
        kept.set(k, new ArrayList<>(past));
        return deeds();
    }

    int on(int k) {
        if (!in(k, 0, 2)) return BAD;
        if (kept.get(k) == null) return found(NOTHING);
        past = new ArrayList<>(kept.get(k));
        return deeds();
    }

    int belong() {
        return past.isEmpty() ? 0 : now().bits();
    }

    int laws() {
        if (past.isEmpty()) return STATE;
        Land l = now();
        int free = 0;
        int passed = 0;
        for (int law = 0; law < 3; law++) {
            int bit = 1 << law;
            if ((l.westLaws & bit) == 0 && (l.eastLaws & bit) == 0) {
                free += bit;
                int votes = l.belonging().stream().filter(i -> (l.would[i] & bit) != 0).mapToInt(l::votes).sum();
                passed += votes > l.all() - votes ? bit : 0;
            }
        }
        tell(passed);
        return free;
    }

    int seats(int n, int r) {
        if (!in(n, 0, 20) || !in(r, 0, 5)) return BAD;
        if (past.isEmpty()) return STATE;
        Land l = now();
        List<int[]> bids = new ArrayList<>();
        for (int i : l.belonging()) {
            for (int by = 1; by <= 20 && l.votes(i) > 0; by++) {
                bids.add(new int[] {i, l.votes(i), by});
            }
        }
        // the best n bids of all are those that are taken one by one, as one's own fall
        bids.sort(Comparator.<int[]>comparingDouble(b -> -(double) b[1] / b[2]).thenComparingInt(b -> b[0]));
        rows[r] = new int[people()];
        int shared = Math.min(n, bids.size());
        for (int s = 0; s < shared; s++) {
            rows[r][bids.get(s)[0]]++;
        }
        return shared;
    }

    private static List<List<Integer>> somesOf(List<Integer> all) {
        List<List<Integer>> somes = new ArrayList<>();
        somes.add(List.of());
        for (int i : all) {
            for (List<Integer> some : List.copyOf(somes)) {
                List<Integer> more = new ArrayList<>(some);
                more.add(i);
                somes.add(more);
            }
        }
        return somes;
    }

    private static int bitsOf(List<Integer> some) {
        return some.stream().mapToInt(i -> 1 << i).sum();
    }

    int fewest() {
        if (past.isEmpty()) return STATE;
        Land l = now();
        List<List<Integer>> most = new ArrayList<>(somesOf(l.belonging()));
        most.removeIf(some -> some.stream().mapToInt(l::votes).sum() * 2 <= l.all());
        if (most.isEmpty()) return NONE;
        List<Integer> least = Collections.min(most, Comparator.<List<Integer>>comparingInt(List::size)
                .thenComparingInt(Model::bitsOf));
        tell(bitsOf(least));
        return least.size();
    }

    int then(int n) {
        if (!in(n, 0, 30)) return BAD;
        if (past.isEmpty()) return STATE;
        Land l = now();
        for (int y = 0; y < n; y++) {
            l = l.yearOn();
        }
        tell(l.bits());
        return l.coasts();
    }

    int when(int west, int east) {
        if (past.isEmpty()) return STATE;
        if (!in(west, 0, east) || !in(east, west, cells())) return BAD;
        Land l = now();
        for (int y = 0; y <= 30; y++) {
            if (l.west == west && l.east == east) return y;
            l = l.yearOn();
        }
        return NONE;
    }

    int round() {
        if (past.isEmpty()) return STATE;
        Map<Integer, Integer> seen = new LinkedHashMap<>();
        Land l = now();
        int y = 0;
        while (!seen.containsKey(l.coasts())) {
            seen.put(l.coasts(), y);
            l = l.yearOn();
            y++;
        }
        tell(y - seen.get(l.coasts()));
        return y;
    }

    int duel(int n) {
        if (!in(n, 0, 6)) return BAD;
        return past.isEmpty() ? STATE : now().duel(n, true);
    }

    int peace(int n, int r) {
        if (!in(n, 0, 99) || !in(r, 0, 5)) return BAD;
        if (past.isEmpty() || now().all() == 0) return STATE;
        Land l = now();
        int[] crowns = new int[people()];
        int left = n;
        for (int i : l.belonging()) {
            crowns[i] = l.votes(i) * n / l.all();
            left -= crowns[i];
        }
        while (left > 0) {
            for (int i : l.belonging()) {
                if (left > 0) {
                    crowns[i]++;
                    left--;
                }
            }
        }
        rows[r] = crowns;
        for (int i : l.belonging()) {
            for (int j : l.belonging()) {
                if (crowns[j] > crowns[i] && l.votes(j) <= l.votes(i)) return crowns[i];
            }
        }
        return NONE;
    }

    int way(int from, int to) {
        if (!in(from, 0, cells() - 1) || !in(to, 0, cells() - 1)) return BAD;
        return now().way(from, to);
    }

    int far(int from) {
        if (!in(from, 0, cells() - 1)) return BAD;
        Land l = now();
        int best = l.n - 1;
        for (int c = l.n - 1; c >= 0; c--) {
            best = l.far(c) <= l.far(best) ? c : best;
        }
        tell(best);
        return l.far(from);
    }

    private int papers(int i, int r) {
        if (!in(i, 0, people() - 1) || !in(r, 0, 5)) return BAD;
        if (rows[r] == null) return found(NOTHING);
        if (rows[r].length % 3 != 0) return found(SIZE);
        for (int p = 0; p < rows[r].length; p += 3) {
            int[] three = Arrays.copyOfRange(rows[r], p, p + 3);
            if (!in(three[0], 0, three[1]) || three[1] > cells() || !in(three[2], 0, 1)) return found(UNLIKE);
        }
        return 0;
    }

    private boolean agrees(int i, int kind, int cell, int[] papers) {
        for (int p = 0; p < papers.length; p += 3) {
            Land l = now().with(papers[p], papers[p + 1], 0);
            if (l.as(i, kind).belongs(cell) != (papers[p + 2] == 1)) return false;
        }
        return true;
    }

    int kinds(int i, int r) {
        int refused = papers(i, r);
        if (refused != 0) return refused;
        int bits = 0;
        for (int kind = 0; kind < 6; kind++) {
            bits += agrees(i, kind, now().cells[i], rows[r]) ? 1 << kind : 0;
        }
        return bits;
    }

    int spots(int i, int r) {
        int refused = papers(i, r);
        if (refused != 0) return refused;
        int bits = 0;
        for (int c = 0; c < cells(); c++) {
            bits += agrees(i, now().kinds[i], c, rows[r]) ? 1 << c : 0;
        }
        return bits;
    }

    private void tellFraction(BigInteger above, BigInteger below) {
        BigInteger common = above.gcd(below);
        upper = above.divide(common);
        lower = below.divide(common);
    }

    private static BigInteger ways(int all, int here, int p) {
        return BigInteger.valueOf(12 - p).pow(here).multiply(BigInteger.valueOf(p).pow(all - here));
    }

    int odds(int v, int p) {
        if (!in(v, 0, 99) || !in(p, 0, 12)) return BAD;
        if (past.isEmpty()) return STATE;
        Land l = now();
        List<Integer> all = l.belonging();
        BigInteger sum = BigInteger.ZERO;
        for (List<Integer> here : somesOf(all)) {
            if (here.stream().mapToInt(l::votes).sum() >= v) {
                sum = sum.add(ways(all.size(), here.size(), p));
            }
        }
        tellFraction(sum, BigInteger.valueOf(12).pow(all.size()));
        return 1;
    }

    int mid(int p) {
        if (!in(p, 0, 12)) return BAD;
        if (past.isEmpty()) return STATE;
        Land l = now();
        List<Integer> all = l.belonging();
        BigInteger sum = BigInteger.ZERO;
        for (List<Integer> here : somesOf(all)) {
            int most = here.stream().mapToInt(l::votes).max().orElse(0);
            sum = sum.add(ways(all.size(), here.size(), p).multiply(BigInteger.valueOf(most)));
        }
        tellFraction(sum, BigInteger.valueOf(12).pow(all.size()));
        return 1;
    }

    int lots(int n, int seed) {
        if (!in(n, 1, 20) || !in(seed, 1, 2147483646)) return BAD;
        if (past.isEmpty()) return STATE;
        if (deeds() + n > 40) return FULL;
        BigInteger lot = BigInteger.valueOf(seed);
        for (int d = 0; d < n; d++) {
            lot = lot.multiply(BigInteger.valueOf(48271)).mod(BigInteger.valueOf(2147483647));
            int it = lot.intValueExact();
            if (it % 3 == 0) {
                done(now().yearOn());
            } else {
                int i = it / 8 % people();
                int to = now().cells[i] + (it % 3 == 1 ? -1 : 1);
                done(in(to, 0, cells() - 1) ? now().walked(i, to) : now());
            }
        }
        return coast(2);
    }

    int asked() {
        return asked;
    }

    long upper() {
        return upper.longValueExact();
    }

    long lower() {
        return lower.longValueExact();
    }

    int count(int what) {
        Land l = now();
        return switch (what) {
            case 0 -> people();
            case 1 -> cells();
            case 2 -> l == null ? 0 : l.year;
            case 3 -> deeds();
            case 4 -> l == null ? 0 : l.west;
            case 5 -> l == null ? 0 : l.east;
            case 6 -> belong();
            case 7 -> l == null ? 0 : (int) Arrays.stream(l.kinds).filter(k -> k == 2 || k == 5).count();
            case 8 -> (int) Arrays.stream(rows).filter(r -> r != null).count();
            case 9 -> (int) Arrays.stream(texts).filter(t -> t != null).count();
            case 10 -> (int) kept.stream().filter(k -> k != null).count();
            default -> BAD;
        };
    }

    int finding() {
        return finding;
    }

    int findings(int f) {
        return in(f, 1, 5) ? found.getOrDefault(f, 0) : BAD;
    }

    long digest() {
        List<Integer> values = new ArrayList<>();
        for (int what = 0; what <= 10; what++) {
            values.add(count(what));
        }
        for (int what = 3; what <= 5 && !past.isEmpty(); what++) {
            values.add(coast(what));
        }
        for (int i = 0; i < people(); i++) {
            for (int what = 0; what <= 5; what++) {
                values.add(ofOne(i, what));
            }
        }
        for (List<Land> k : kept) {
            values.add(k == null ? -1 : k.size() - 1);
        }
        for (int[] row : rows) {
            values.add(row == null ? -1 : row.length);
            for (int p = 0; row != null && p < row.length; p++) {
                values.add(row[p]);
            }
        }
        for (byte[] text : texts) {
            values.add(text == null ? -1 : text.length);
            for (int p = 0; text != null && p < text.length; p++) {
                values.add((int) text[p]);
            }
        }
        long h = 17;
        for (int v : values) {
            h = 31 * h + v;
        }
        return h;
    }
}
