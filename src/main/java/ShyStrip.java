/**
 * A strip between a WEST and an EAST, as ../shared/DOC.md tells it; its words are used here.
 *
 * The constructor makes all objects and arrays that an object ever needs, and no call makes
 * another one: all calls of a run live in one room that is never swept.
 */
public final class ShyStrip {
    public static final int BAD = -1, FULL = -2, FINDING = -3, STATE = -4, SPENT = -6, NONE = -9;

    // what a test of a call's numbers answers if nothing is to be refused
    private static final int WELL = 0;
    private static final int NOTHING = 1, BEYOND = 2, UNLIKE = 3, NOUGHT = 4, SIZE = 5;
    private static final int PERSON = 0, OUT = 1, LADY = 2, HARE = 3, POST = 4, FLAG = 5;
    private static final int[] LETTERS = {112, 111, 108, 104, 116, 102};
    private static final int WEST = 0, EAST = 1, BACK = 1, ON = -1;
    private static final int BLANK = 32, LETTER_OF_LAND = 110, FIGURE_NOUGHT = 48;
    private static final int ROWS = 6, ROW_ROOM = 40, TEXTS = 4, TEXT_ROOM = 60, KEPT = 3;
    private static final int MOST_PEOPLE = 6, MOST_DEEDS = 40, ALL_LAWS = 7, HARES_NEED = 3;
    private static final int MOST_YEARS = 30, TWELVE = 12, MOST_TURNS = 1000;
    // COASTS of 9 CELLS are of 55 ways, so the way they go comes round within as many YEARS
    private static final int WAYS_OF_COASTS = 55;

    private final Row[] rows = new Row[ROWS];
    private final Row[] texts = new Row[TEXTS];
    private final Land land = new Land();
    private final Land[] kept = new Land[KEPT];
    private final Land draft = new Land();
    private final Reader reader = new Reader();
    private final int[] coastsSeen = new int[WAYS_OF_COASTS + 1];
    private final int[] found = new int[SIZE + 1];
    private int latestFound = 0;
    private int asked = 0;
    private long upper = 0;
    private long lower = 1;

    public ShyStrip() {
        for (int r = 0; r < ROWS; r++) {
            rows[r] = new Row(new int[ROW_ROOM]);
        }
        for (int t = 0; t < TEXTS; t++) {
            texts[t] = new Row(new int[TEXT_ROOM]);
        }
        for (int k = 0; k < KEPT; k++) {
            kept[k] = new Land();
        }
    }

    // ---- 1 rows, texts, lands

    public int row(int r, int n) {
        if (!isRow(r) || n > ROW_ROOM) {
            return BAD;
        }
        if (n < 0) {
            return refuse(SIZE);
        }
        rows[r].layAnew(n, 0);
        return n;
    }

    public int lay(int r, int i, int v) {
        int refused = refusePlace(rows, r, i);
        if (refused != WELL) {
            return refused;
        }
        asked = rows[r].places[i];
        rows[r].places[i] = v;
        return 1;
    }

    public int at(int r, int i) {
        int refused = refusePlace(rows, r, i);
        if (refused != WELL) {
            return refused;
        }
        asked = rows[r].places[i];
        return 1;
    }

    public int tear(int r) {
        int refused = refuseMissing(rows, r);
        if (refused != WELL) {
            return refused;
        }
        rows[r].size = Row.MISSING;
        return 1;
    }

    public int copy(int r, int i, int to, int j, int n) {
        if (!isRow(r) || !isRow(to)) {
            return BAD;
        }
        if (n < 0) {
            return refuse(SIZE);
        }
        if (rows[r].isMissing() || rows[to].isMissing()) {
            return refuse(NOTHING);
        }
        if (!rows[r].hasRun(i, n) || !rows[to].hasRun(j, n)) {
            return refuse(BEYOND);
        }
        System.arraycopy(rows[r].places, i, rows[to].places, j, n);
        return 1;
    }

    public int mean(int r) {
        int refused = refuseMissing(rows, r);
        if (refused != WELL) {
            return refused;
        }
        Row row = rows[r];
        if (row.size == 0) {
            return refuse(NOUGHT);
        }
        asked = (int) (row.sum() / row.size);
        return 1;
    }

    public int text(int t, int n) {
        if (!isText(t) || n > TEXT_ROOM) {
            return BAD;
        }
        if (n < 0) {
            return refuse(SIZE);
        }
        texts[t].layAnew(n, BLANK);
        return n;
    }

    public int put(int t, int i, int v) {
        int refused = refusePlace(texts, t, i);
        if (refused != WELL) {
            return refused;
        }
        int was = texts[t].places[i];
        texts[t].places[i] = (byte) v;
        return was + 1000;
    }

    public int fault(int t) {
        int refused = refuseMissing(texts, t);
        if (refused != WELL) {
            return refused;
        }
        return reader.read(texts[t], draft) ? NONE : reader.place;
    }

    public int land(int t) {
        int refused = refuseMissing(texts, t);
        if (refused != WELL) {
            return refused;
        }
        if (!reader.read(texts[t], draft)) {
            return STATE;
        }
        land.becomeAs(draft);
        for (int k = 0; k < KEPT; k++) {
            kept[k].cells = 0;
        }
        return land.people;
    }

    public int one(int i, int what) {
        if (!land.hasOne(i) || what < 0 || what > 5) {
            return BAD;
        }
        asked = ofOne(i, what);
        return 1;
    }

    public int mark(int i, int kind) {
        if (!land.hasOne(i) || kind < OUT || kind > FLAG) {
            return BAD;
        }
        if (!land.isOf(i, kind)) {
            return refuse(UNLIKE);
        }
        switch (kind) {
            case OUT:
                return land.cell[i] != land.firstCell[i] ? 1 : 0;
            case LADY:
                return land.farFromStrip(land.cell[i]);
            case HARE:
                return Math.max(0, HARES_NEED - land.strip());
            case POST:
                return land.othersWith(i);
            default:
                return Math.abs(land.cell[i] - middleOf(land.west, land.east));
        }
    }

    public int coast(int what) {
        if (what < 0 || what > 5) {
            return BAD;
        }
        if (!land.isThere()) {
            return STATE;
        }
        int west = land.west;
        int east = land.east;
        switch (what) {
            case 0:
                return west;
            case 1:
                return east;
            case 2:
                return land.strip();
            case 3:
                return land.votesBelonging(west, east);
            case 4:
                return land.votesOfWest(west, east);
            default:
                return land.votesOfEast(west, east);
        }
    }

    // ---- 2 deeds

    public int year() {
        if (!land.isThere()) {
            return STATE;
        }
        if (!land.hasRoomFor(1)) {
            return FULL;
        }
        land.passYear();
        return land.strip();
    }

    public int step(int side, int by) {
        if ((side != WEST && side != EAST) || (by != BACK && by != ON)) {
            return BAD;
        }
        if (!land.isThere() || !land.canMove(side, by, land.west, land.east)) {
            return STATE;
        }
        if (!land.hasRoomFor(1)) {
            return FULL;
        }
        land.act(side == WEST ? -by : 0, side == EAST ? by : 0, 0, 0, 0);
        return land.strip();
    }

    public int walk(int i, int cell) {
        if (!land.hasOne(i) || !land.hasCell(cell)) {
            return BAD;
        }
        int by = cell - land.cell[i];
        if (by != 1 && by != -1) {
            return STATE;
        }
        if (!land.hasRoomFor(1)) {
            return FULL;
        }
        land.act(0, 0, 0, i, by);
        return land.belongs(i) ? 1 : 0;
    }

    public int undo(int n) {
        if (n < 0 || n > land.deeds.number) {
            return BAD;
        }
        int undone = land.deeds.number - n;
        land.takeBack(undone);
        return undone;
    }

    public int keep(int k) {
        if (!isKept(k)) {
            return BAD;
        }
        if (!land.isThere()) {
            return STATE;
        }
        kept[k].becomeAs(land);
        return land.deeds.number;
    }

    public int on(int k) {
        if (!isKept(k)) {
            return BAD;
        }
        if (!kept[k].isThere()) {
            return refuse(NOTHING);
        }
        land.becomeAs(kept[k]);
        return land.deeds.number;
    }

    // ---- 3 votes, laws (aside, now)

    public int belong() {
        return land.belonging(land.west, land.east);
    }

    public int laws() {
        if (!land.isThere()) {
            return STATE;
        }
        int free = ALL_LAWS & ~(land.westLaws | land.eastLaws);
        int all = land.votesBelonging(land.west, land.east);
        int passed = 0;
        for (int law = 1; law <= ALL_LAWS; law *= 2) {
            if ((free & law) != 0 && 2 * land.votesFor(law) > all) {
                passed |= law;
            }
        }
        asked = passed;
        return free;
    }

    public int seats(int n, int r) {
        if (n < 0 || n > 20 || !isRow(r)) {
            return BAD;
        }
        if (!land.isThere()) {
            return STATE;
        }
        Row row = rows[r];
        row.layAnew(land.people, 0);
        int shared = 0;
        for (int seat = 0; seat < n; seat++) {
            int next = nextSeated(row);
            if (next >= 0) {
                row.places[next]++;
                shared++;
            }
        }
        return shared;
    }

    public int fewest() {
        if (!land.isThere()) {
            return STATE;
        }
        int all = belong();
        int half = land.votesOf(all);
        int least = 0;
        for (int some = 1; some <= all; some++) {
            if ((some & ~all) == 0 && 2 * land.votesOf(some) > half
                    && (least == 0 || Integer.bitCount(some) < Integer.bitCount(least))) {
                least = some;
            }
        }
        if (least == 0) {
            return NONE;
        }
        asked = least;
        return Integer.bitCount(least);
    }

    // ---- 4 years (aside, nobody walking)

    public int then(int n) {
        if (n < 0 || n > MOST_YEARS) {
            return BAD;
        }
        if (!land.isThere()) {
            return STATE;
        }
        int coasts = land.coasts();
        for (int y = 0; y < n; y++) {
            coasts = land.yearOn(coasts);
        }
        asked = land.belonging(westOf(coasts), eastOf(coasts));
        return coasts;
    }

    public int when(int west, int east) {
        if (!land.isThere()) {
            return STATE;
        }
        if (!land.canBeCoasts(west, east)) {
            return BAD;
        }
        int wanted = coastsOf(west, east);
        int coasts = land.coasts();
        for (int y = 0; y <= MOST_YEARS; y++) {
            if (coasts == wanted) {
                return y;
            }
            coasts = land.yearOn(coasts);
        }
        return NONE;
    }

    public int round() {
        if (!land.isThere()) {
            return STATE;
        }
        coastsSeen[0] = land.coasts();
        for (int y = 1; y <= WAYS_OF_COASTS; y++) {
            coastsSeen[y] = land.yearOn(coastsSeen[y - 1]);
            for (int ahead = y - 1; ahead >= 0; ahead--) {
                if (coastsSeen[ahead] == coastsSeen[y]) {
                    asked = y - ahead;
                    return y;
                }
            }
        }
        return NONE;
    }

    // ---- 5 by turns

    public int duel(int n) {
        if (n < 0 || n > 6) {
            return BAD;
        }
        if (!land.isThere()) {
            return STATE;
        }
        return votesByTurns(land, n, WEST, land.west, land.east);
    }

    public int peace(int n, int r) {
        if (n < 0 || n > 99 || !isRow(r)) {
            return BAD;
        }
        if (!land.isThere()) {
            return STATE;
        }
        int all = land.votesBelonging(land.west, land.east);
        if (all <= 0) {
            return STATE;
        }
        Row row = rows[r];
        shareCrowns(n, all, row);
        for (int i = 0; i < land.people; i++) {
            if (land.belongs(i) && isWronged(i, row)) {
                return row.places[i];
            }
        }
        return NONE;
    }

    // ---- 6 ways

    public int way(int from, int to) {
        if (!land.hasCell(from) || !land.hasCell(to)) {
            return BAD;
        }
        return land.wayLong(from, to);
    }

    public int far(int from) {
        if (!land.hasCell(from)) {
            return BAD;
        }
        int best = 0;
        for (int c = 1; c < land.cells; c++) {
            if (land.farLong(c) < land.farLong(best)) {
                best = c;
            }
        }
        asked = best;
        return land.farLong(from);
    }

    // ---- 7 papers

    public int kinds(int i, int r) {
        int refused = refusePapers(i, r);
        if (refused != WELL) {
            return refused;
        }
        int bits = 0;
        for (int kind = PERSON; kind <= FLAG; kind++) {
            if (agrees(kind, land.cell[i], land.firstCell[i], rows[r])) {
                bits |= 1 << kind;
            }
        }
        return bits;
    }

    public int spots(int i, int r) {
        int refused = refusePapers(i, r);
        if (refused != WELL) {
            return refused;
        }
        int bits = 0;
        for (int cell = 0; cell < land.cells; cell++) {
            if (agrees(land.kind[i], cell, land.firstCell[i], rows[r])) {
                bits |= 1 << cell;
            }
        }
        return bits;
    }

    // ---- 8 chances, lots

    public int odds(int v, int p) {
        if (v < 0 || v > 99 || p < 0 || p > TWELVE) {
            return BAD;
        }
        if (!land.isThere()) {
            return STATE;
        }
        int all = belong();
        long ways = 0;
        for (int here = 0; here <= all; here++) {
            if ((here & ~all) == 0 && land.votesOf(here) >= v) {
                ways += waysToBeHere(here, all, p);
            }
        }
        tellFraction(ways, power(TWELVE, Integer.bitCount(all)));
        return 1;
    }

    public int mid(int p) {
        if (p < 0 || p > TWELVE) {
            return BAD;
        }
        if (!land.isThere()) {
            return STATE;
        }
        int all = belong();
        long sum = 0;
        for (int here = 0; here <= all; here++) {
            if ((here & ~all) == 0) {
                sum += land.mostVotesIn(here) * waysToBeHere(here, all, p);
            }
        }
        tellFraction(sum, power(TWELVE, Integer.bitCount(all)));
        return 1;
    }

    public int lots(int n, int seed) {
        if (n < 1 || n > 20 || seed < 1 || seed > 2147483646) {
            return BAD;
        }
        if (!land.isThere()) {
            return STATE;
        }
        if (!land.hasRoomFor(n)) {
            return FULL;
        }
        long lot = seed;
        for (int d = 0; d < n; d++) {
            lot = lot * 48271 % 2147483647;
            if (lot % 3 == 0) {
                land.passYear();
            } else {
                land.walkByLot((int) (lot / 8), lot % 3 == 1 ? -1 : 1);
            }
        }
        return land.strip();
    }

    // ---- 9 what is told

    public int asked() {
        return asked;
    }

    public long upper() {
        return upper;
    }

    public long lower() {
        return lower;
    }

    public int count(int what) {
        switch (what) {
            case 0:
                return land.people;
            case 1:
                return land.cells;
            case 2:
                return land.year;
            case 3:
                return land.deeds.number;
            case 4:
                return land.west;
            case 5:
                return land.east;
            case 6:
                return belong();
            case 7:
                return land.ladies();
            case 8:
                return thereOf(rows);
            case 9:
                return thereOf(texts);
            case 10:
                return keptLands();
            default:
                return BAD;
        }
    }

    public int finding() {
        return latestFound;
    }

    public int findings(int f) {
        if (f < NOTHING || f > SIZE) {
            return BAD;
        }
        return found[f];
    }

    public long digest() {
        long h = 17;
        for (int what = 0; what <= 10; what++) {
            h = 31 * h + count(what);
        }
        for (int what = 3; what <= 5 && land.isThere(); what++) {
            h = 31 * h + coast(what);
        }
        for (int i = 0; i < land.people; i++) {
            for (int what = 0; what <= 5; what++) {
                h = 31 * h + ofOne(i, what);
            }
        }
        for (int k = 0; k < KEPT; k++) {
            h = 31 * h + (kept[k].isThere() ? kept[k].deeds.number : -1);
        }
        for (int r = 0; r < ROWS; r++) {
            h = rows[r].digestOn(h);
        }
        for (int t = 0; t < TEXTS; t++) {
            h = texts[t].digestOn(h);
        }
        return h;
    }

    // ---- what the calls are made of

    private static boolean isRow(int r) {
        return r >= 0 && r < ROWS;
    }

    private static boolean isText(int t) {
        return t >= 0 && t < TEXTS;
    }

    private static boolean isKept(int k) {
        return k >= 0 && k < KEPT;
    }

    private int refuse(int finding) {
        if (finding >= NOTHING && finding <= SIZE) {
            latestFound = finding;
            found[finding]++;
        }
        return FINDING;
    }

    private int refuseMissing(Row[] shelf, int place) {
        if (place < 0 || place >= shelf.length) {
            return BAD;
        }
        return shelf[place].isMissing() ? refuse(NOTHING) : WELL;
    }

    private int refusePlace(Row[] shelf, int place, int i) {
        int refused = refuseMissing(shelf, place);
        if (refused != WELL) {
            return refused;
        }
        return shelf[place].hasPlace(i) ? WELL : refuse(BEYOND);
    }

    private int ofOne(int i, int what) {
        switch (what) {
            case 0:
                return land.kind[i];
            case 1:
                return land.cell[i];
            case 2:
                return land.firstCell[i];
            case 3:
                return land.votes(i);
            case 4:
                return land.would[i];
            default:
                return land.belongs(i) ? 1 : 0;
        }
    }

    private static int thereOf(Row[] shelf) {
        int there = 0;
        for (int s = 0; s < shelf.length; s++) {
            if (!shelf[s].isMissing()) {
                there++;
            }
        }
        return there;
    }

    private int keptLands() {
        int there = 0;
        for (int k = 0; k < KEPT; k++) {
            if (kept[k].isThere()) {
                there++;
            }
        }
        return there;
    }

    /** Who has the next SEAT, by what SEATS each has; -1: nobody who BELONGS has VOTES. */
    private int nextSeated(Row row) {
        int best = -1;
        for (int i = 0; i < land.people; i++) {
            if (land.belongs(i) && land.votes(i) > 0 && (best < 0
                    || land.votes(i) * (row.places[best] + 1) > land.votes(best) * (row.places[i] + 1))) {
                best = i;
            }
        }
        return best;
    }

    private static int votesByTurns(Land land, int turns, int side, int west, int east) {
        if (turns <= 0) {
            return land.votesBelonging(west, east);
        }
        int other = side == WEST ? EAST : WEST;
        int best = votesByTurns(land, turns - 1, other, west, east);
        if (land.canMove(side, BACK, west, east)) {
            int votes = side == WEST
                    ? votesByTurns(land, turns - 1, other, west - 1, east)
                    : votesByTurns(land, turns - 1, other, west, east + 1);
            best = betterFor(side, best, votes);
        }
        if (land.canMove(side, ON, west, east)) {
            int votes = side == WEST
                    ? votesByTurns(land, turns - 1, other, west + 1, east)
                    : votesByTurns(land, turns - 1, other, west, east - 1);
            best = betterFor(side, best, votes);
        }
        return best;
    }

    private static int betterFor(int side, int votes, int others) {
        return side == WEST ? Math.min(votes, others) : Math.max(votes, others);
    }

    private void shareCrowns(int n, int all, Row row) {
        row.layAnew(land.people, 0);
        int left = n;
        for (int i = 0; i < land.people && all > 0; i++) {
            if (land.belongs(i)) {
                row.places[i] = land.votes(i) * n / all;
                left -= row.places[i];
            }
        }
        // fewer are left than there are who BELONG, as each of them is cut by less than a crown
        for (int i = 0; i < land.people && left > 0; i++) {
            if (land.belongs(i)) {
                row.places[i]++;
                left--;
            }
        }
    }

    private boolean isWronged(int i, Row row) {
        for (int j = 0; j < land.people; j++) {
            if (land.belongs(j) && row.places[i] < row.places[j] && land.votes(j) <= land.votes(i)) {
                return true;
            }
        }
        return false;
    }

    private int refusePapers(int i, int r) {
        if (!land.hasOne(i)) {
            return BAD;
        }
        int refused = refuseMissing(rows, r);
        if (refused != WELL) {
            return refused;
        }
        Row papers = rows[r];
        if (papers.size % 3 != 0) {
            return refuse(SIZE);
        }
        for (int p = 0; p + 2 < papers.size; p += 3) {
            int then = papers.places[p + 2];
            if (!land.canBeCoasts(papers.places[p], papers.places[p + 1]) || (then != 0 && then != 1)) {
                return refuse(UNLIKE);
            }
        }
        return WELL;
    }

    private boolean agrees(int kind, int cell, int firstCell, Row papers) {
        for (int p = 0; p + 2 < papers.size; p += 3) {
            boolean then = papers.places[p + 2] == 1;
            if (land.wouldBelong(kind, cell, firstCell, papers.places[p], papers.places[p + 1]) != then) {
                return false;
            }
        }
        return true;
    }

    /** In how many of 12 to the number of all ways just these of all are here. */
    private static long waysToBeHere(int here, int all, int p) {
        int present = Integer.bitCount(here);
        return power(TWELVE - p, present) * power(p, Integer.bitCount(all) - present);
    }

    private static long power(int base, int times) {
        long product = 1;
        for (int t = 0; t < times; t++) {
            product *= base;
        }
        return product;
    }

    private void tellFraction(long above, long below) {
        long common = below;
        long rest = above;
        // what stands below is 12 to the 6 at most: far fewer turns are needed
        for (int turn = 0; turn < MOST_TURNS && rest > 0; turn++) {
            long next = common % rest;
            common = rest;
            rest = next;
        }
        if (common > 0) {
            upper = above / common;
            lower = below / common;
        }
    }

    /** Both COASTS in one number, as then() tells them. */
    private static int coastsOf(int west, int east) {
        return 10 * west + east;
    }

    private static int westOf(int coasts) {
        return coasts / 10;
    }

    private static int eastOf(int coasts) {
        return coasts % 10;
    }

    private static int middleOf(int west, int east) {
        return (west + east) / 2;
    }

    /** A ROW, or a TEXT, whose bytes are ints here, too. */
    private static final class Row {
        static final int MISSING = -1;

        final int[] places;
        int size = MISSING;

        Row(int[] places) {
            this.places = places;
        }

        boolean isMissing() {
            return size < 0;
        }

        boolean hasPlace(int i) {
            return i >= 0 && i < size;
        }

        boolean hasRun(int i, int n) {
            return i >= 0 && i <= size && n >= 0 && n <= size - i;
        }

        void layAnew(int n, int v) {
            size = Math.max(0, Math.min(n, places.length));
            for (int i = 0; i < size; i++) {
                places[i] = v;
            }
        }

        long sum() {
            long sum = 0;
            for (int i = 0; i < size; i++) {
                sum += places[i];
            }
            return sum;
        }

        long digestOn(long ahead) {
            long h = 31 * ahead + size;
            for (int i = 0; i < size; i++) {
                h = 31 * h + places[i];
            }
            return h;
        }
    }

    /** What was done, each of the DEEDS by what it changed, so that it can be taken back. */
    private static final class Deeds {
        final int[] westBy = new int[MOST_DEEDS];
        final int[] eastBy = new int[MOST_DEEDS];
        final int[] yearBy = new int[MOST_DEEDS];
        final int[] walker = new int[MOST_DEEDS];
        final int[] walkBy = new int[MOST_DEEDS];
        int number = 0;

        void becomeAs(Deeds other) {
            number = other.number;
            System.arraycopy(other.westBy, 0, westBy, 0, MOST_DEEDS);
            System.arraycopy(other.eastBy, 0, eastBy, 0, MOST_DEEDS);
            System.arraycopy(other.yearBy, 0, yearBy, 0, MOST_DEEDS);
            System.arraycopy(other.walker, 0, walker, 0, MOST_DEEDS);
            System.arraycopy(other.walkBy, 0, walkBy, 0, MOST_DEEDS);
        }
    }

    /** A LAND as it is; it is missing as long as it has no CELLS. */
    private static final class Land {
        int cells = 0;
        int west = 0;
        int east = 0;
        int firstWest = 0;
        int firstEast = 0;
        int westLaws = 0;
        int eastLaws = 0;
        int year = 0;
        int people = 0;
        final int[] kind = new int[MOST_PEOPLE];
        final int[] cell = new int[MOST_PEOPLE];
        final int[] firstCell = new int[MOST_PEOPLE];
        final int[] toldVotes = new int[MOST_PEOPLE];
        final int[] would = new int[MOST_PEOPLE];
        final Deeds deeds = new Deeds();

        boolean isThere() {
            return cells > 0;
        }

        boolean hasCell(int c) {
            return c >= 0 && c < cells;
        }

        boolean hasOne(int i) {
            return i >= 0 && i < people;
        }

        boolean hasRoomFor(int more) {
            return deeds.number + more <= MOST_DEEDS;
        }

        boolean canBeCoasts(int w, int e) {
            return w >= 0 && w <= e && e <= cells;
        }

        int strip() {
            return east - west;
        }

        int coasts() {
            return coastsOf(west, east);
        }

        void becomeAs(Land other) {
            cells = other.cells;
            west = other.west;
            east = other.east;
            firstWest = other.firstWest;
            firstEast = other.firstEast;
            westLaws = other.westLaws;
            eastLaws = other.eastLaws;
            year = other.year;
            people = other.people;
            System.arraycopy(other.kind, 0, kind, 0, MOST_PEOPLE);
            System.arraycopy(other.cell, 0, cell, 0, MOST_PEOPLE);
            System.arraycopy(other.firstCell, 0, firstCell, 0, MOST_PEOPLE);
            System.arraycopy(other.toldVotes, 0, toldVotes, 0, MOST_PEOPLE);
            System.arraycopy(other.would, 0, would, 0, MOST_PEOPLE);
            deeds.becomeAs(other.deeds);
        }

        boolean isOf(int i, int wanted) {
            int is = kind[i];
            return wanted == PERSON || is == wanted
                    || (wanted == OUT && is == POST) || (wanted == LADY && is == FLAG);
        }

        int ladies() {
            int ladies = 0;
            for (int i = 0; i < people; i++) {
                if (isOf(i, LADY)) {
                    ladies++;
                }
            }
            return ladies;
        }

        int votes(int i) {
            switch (kind[i]) {
                case LADY:
                    return toldVotes[i] / 2;
                case FLAG:
                    return toldVotes[i] / 2 + 1;
                case POST:
                    return toldVotes[i] * 2;
                case HARE:
                    return 1;
                default:
                    return toldVotes[i];
            }
        }

        /** Whether one of a kind in a cell BELONGS by these COASTS. */
        boolean wouldBelong(int ofKind, int in, int atFirst, int w, int e) {
            boolean inside = w <= in && in < e;
            boolean wasOut = firstWest <= atFirst && atFirst < firstEast;
            boolean atSill = in == w - 1 || in == e;
            switch (ofKind) {
                case OUT:
                    return wasOut;
                case POST:
                    return wasOut && in >= w;
                case LADY:
                    return inside || atSill;
                case FLAG:
                    return (inside || atSill) && in == middleOf(w, e);
                case HARE:
                    return inside && e - w >= HARES_NEED;
                default:
                    return inside;
            }
        }

        boolean belongs(int i) {
            return wouldBelong(kind[i], cell[i], firstCell[i], west, east);
        }

        int belonging(int w, int e) {
            int bits = 0;
            for (int i = 0; i < people; i++) {
                if (wouldBelong(kind[i], cell[i], firstCell[i], w, e)) {
                    bits |= 1 << i;
                }
            }
            return bits;
        }

        int votesOf(int some) {
            int sum = 0;
            for (int i = 0; i < people; i++) {
                if ((some >> i & 1) != 0) {
                    sum += votes(i);
                }
            }
            return sum;
        }

        int mostVotesIn(int some) {
            int most = 0;
            for (int i = 0; i < people; i++) {
                if ((some >> i & 1) != 0) {
                    most = Math.max(most, votes(i));
                }
            }
            return most;
        }

        int votesBelonging(int w, int e) {
            return votesOf(belonging(w, e));
        }

        int votesOfWest(int w, int e) {
            return votesOfStrangers(0, w, w, e);
        }

        int votesOfEast(int w, int e) {
            return votesOfStrangers(e, cells, w, e);
        }

        int votesOfStrangers(int from, int upTo, int w, int e) {
            int sum = 0;
            for (int i = 0; i < people; i++) {
                if (from <= cell[i] && cell[i] < upTo
                        && !wouldBelong(kind[i], cell[i], firstCell[i], w, e)) {
                    sum += votes(i);
                }
            }
            return sum;
        }

        int votesFor(int law) {
            int sum = 0;
            for (int i = 0; i < people; i++) {
                if (belongs(i) && (would[i] & law) != 0) {
                    sum += votes(i);
                }
            }
            return sum;
        }

        int farFromStrip(int c) {
            if (east == west) {
                return Math.abs(c - west);
            }
            return Math.max(0, Math.max(west - c, c - (east - 1)));
        }

        int othersWith(int i) {
            int others = 0;
            for (int j = 0; j < people; j++) {
                if (j != i && cell[j] == cell[i]) {
                    others++;
                }
            }
            return others;
        }

        boolean canMove(int side, int by, int w, int e) {
            if (by == ON) {
                return e > w;
            }
            return side == WEST ? w > 0 : e < cells;
        }

        /** The COASTS a YEAR on from these. */
        int yearOn(int coasts) {
            int w = westOf(coasts);
            int e = eastOf(coasts);
            int ours = votesBelonging(w, e);
            int westBy = ours > votesOfWest(w, e) ? BACK : ON;
            int eastBy = ours > votesOfEast(w, e) ? BACK : ON;
            boolean westAlone = westBy == ON && eastBy == ON && e - w == 1;
            int nextWest = canMove(WEST, westBy, w, e) ? w - westBy : w;
            int nextEast = canMove(EAST, eastBy, w, e) && !westAlone ? e + eastBy : e;
            return coastsOf(nextWest, nextEast);
        }

        void act(int westBy, int eastBy, int yearBy, int walker, int walkBy) {
            if (!hasRoomFor(1) || !hasOne(walker)) {
                return;
            }
            int d = deeds.number;
            deeds.westBy[d] = westBy;
            deeds.eastBy[d] = eastBy;
            deeds.yearBy[d] = yearBy;
            deeds.walker[d] = walker;
            deeds.walkBy[d] = walkBy;
            deeds.number = d + 1;
            west += westBy;
            east += eastBy;
            year += yearBy;
            cell[walker] += walkBy;
        }

        void takeBack(int many) {
            for (int m = 0; m < many && deeds.number > 0; m++) {
                int d = deeds.number - 1;
                west -= deeds.westBy[d];
                east -= deeds.eastBy[d];
                year -= deeds.yearBy[d];
                cell[deeds.walker[d]] -= deeds.walkBy[d];
                deeds.number = d;
            }
        }

        void passYear() {
            int next = yearOn(coasts());
            act(westOf(next) - west, eastOf(next) - east, 1, 0, 0);
        }

        void walkByLot(int lot, int by) {
            if (people <= 0) {
                return;
            }
            int walker = Math.floorMod(lot, people);
            act(0, 0, 0, walker, hasCell(cell[walker] + by) ? by : 0);
        }

        int enterLong(int c) {
            if (west <= c && c < east) {
                return 1;
            }
            int alone = c < west ? 2 : 3;
            for (int i = 0; i < people; i++) {
                if (cell[i] == c && !belongs(i)) {
                    return alone + 1;
                }
            }
            return alone;
        }

        int wayLong(int from, int to) {
            int sum = 0;
            for (int c = from + 1; c <= to; c++) {
                sum += enterLong(c);
            }
            for (int c = from - 1; c >= to; c--) {
                sum += enterLong(c);
            }
            return sum;
        }

        int farLong(int from) {
            int sum = 0;
            for (int to = 0; to < cells; to++) {
                sum += wayLong(from, to);
            }
            return sum;
        }
    }

    /** Reads a LAND off a TEXT; where it can't go on, its place stays. */
    private static final class Reader {
        int place = 0;

        boolean read(Row text, Land land) {
            place = 0;
            return readSides(text, land) && readPeople(text, land);
        }

        boolean readSides(Row text, Land land) {
            skipBlanks(text);
            if (here(text) != LETTER_OF_LAND) {
                return false;
            }
            place++;
            land.cells = figure(text, 3, 9);
            land.west = land.cells < 0 ? -1 : figure(text, 0, land.cells);
            land.east = land.west < 0 ? -1 : figure(text, land.west, land.cells);
            land.westLaws = land.east < 0 ? -1 : figure(text, 0, ALL_LAWS);
            land.eastLaws = land.westLaws < 0 ? -1 : figure(text, 0, ALL_LAWS);
            land.firstWest = land.west;
            land.firstEast = land.east;
            land.year = 0;
            land.people = 0;
            land.deeds.number = 0;
            return land.eastLaws >= 0;
        }

        boolean readPeople(Row text, Land land) {
            skipBlanks(text);
            while (land.people < MOST_PEOPLE && place < text.size) {
                if (!readOne(text, land)) {
                    return false;
                }
                land.people++;
                skipBlanks(text);
            }
            return land.people > 0 && place >= text.size;
        }

        boolean readOne(Row text, Land land) {
            int i = land.people;
            int kind = kindOf(here(text));
            if (kind < 0) {
                return false;
            }
            place++;
            int cell = figure(text, 0, land.cells - 1);
            int votes = cell < 0 ? -1 : figure(text, 0, 9);
            int would = votes < 0 ? -1 : figure(text, 0, ALL_LAWS);
            if (would < 0) {
                return false;
            }
            land.kind[i] = kind;
            land.cell[i] = cell;
            land.firstCell[i] = cell;
            land.toldVotes[i] = votes;
            land.would[i] = would;
            return true;
        }

        void skipBlanks(Row text) {
            while (place < text.size && here(text) == BLANK) {
                place++;
            }
        }

        /** The byte at the place; behind the end one that nothing begins with. */
        int here(Row text) {
            return text.hasPlace(place) ? text.places[place] : -1;
        }

        /** The figure at the place, which goes on behind it; -1, and it stays: there is none such. */
        int figure(Row text, int least, int most) {
            int figure = here(text) - FIGURE_NOUGHT;
            if (figure < least || figure > most) {
                return -1;
            }
            place++;
            return figure;
        }

        static int kindOf(int letter) {
            for (int kind = PERSON; kind <= FLAG; kind++) {
                if (LETTERS[kind] == letter) {
                    return kind;
                }
            }
            return -1;
        }
    }
}
