/** Promises 30 to 33: ways, papers. */
final class WayTests {
    private static final int BAD = ShyStrip.BAD;

    private WayTests() {
    }

    static void run(Check check) {
        way(check);
        far(check);
        kinds(check);
        spots(check);
        papersRefused(check, true);
        papersRefused(check, false);
    }

    private static void way(Check check) {
        check.promise(30);
        check.due("way(0, 0) without CELLS", new ShyStrip().way(0, 0), BAD);
        ShyStrip x = Lands.of("n72400 p010 p010 l110 o210 p510");
        check.due("way(0, 0)", x.way(0, 0), 0);
        check.due("way(6, 6)", x.way(6, 6), 0);
        check.due("way(1, 0), people in the WEST", x.way(1, 0), 3);
        check.due("way(0, 1), one who BELONGS", x.way(0, 1), 2);
        check.due("way(1, 3)", x.way(1, 3), 2);
        check.due("way(3, 4)", x.way(3, 4), 3);
        check.due("way(4, 5), one in the EAST", x.way(4, 5), 4);
        check.due("way(0, 6)", x.way(0, 6), 2 + 1 + 1 + 3 + 4 + 3);
        check.due("way(6, 0)", x.way(6, 0), 4 + 3 + 1 + 1 + 2 + 3);
        check.due("way(-1, 0)", x.way(-1, 0), BAD);
        check.due("way(7, 0)", x.way(7, 0), BAD);
        check.due("way(0, -1)", x.way(0, -1), BAD);
        check.due("way(0, 7)", x.way(0, 7), BAD);
        x.walk(4, 4);
        check.due("way(4, 5), nobody there now", x.way(4, 5), 3);
        check.due("way(3, 4), one there now", x.way(3, 4), 4);
        x.step(1, 1);
        check.due("way(3, 4), in the STRIP now", x.way(3, 4), 1);
        ShyStrip none = Lands.of("n32200 p000 p210");
        check.due("way(0, 1), the WEST's, no STRIP", none.way(0, 1), 2);
        check.due("way(1, 2), the EAST's, no STRIP", none.way(1, 2), 4);
        // one who does not BELONG in the STRIP itself takes nothing more
        ShyStrip out = Lands.of("n31200 o010");
        out.walk(0, 1);
        check.due("way(0, 1), one who was not OUT", out.way(0, 1), 1);
    }

    private static void far(Check check) {
        check.promise(31);
        check.due("far(0) without CELLS", new ShyStrip().far(0), BAD);
        ShyStrip x = Lands.of("n41200 p010 p310");
        check.due("far(0)", x.far(0), 1 + 4 + 8);
        check.due("asked()", x.asked(), 2);
        check.due("far(1)", x.far(1), 3 + 3 + 7);
        check.due("far(2)", x.far(2), 1 + 4 + 4);
        check.due("asked()", x.asked(), 2);
        check.due("far(3)", x.far(3), 3 + 4 + 7);
        check.due("far(4)", x.far(4), BAD);
        check.due("far(-1)", x.far(-1), BAD);
        check.due("asked() stays", x.asked(), 2);
        ShyStrip even = Lands.of("n40400 p010");
        check.due("far(1)", even.far(1), 4);
        check.due("asked(), the first of two", even.asked(), 1);
        ShyStrip first = Lands.of("n31200 p010");
        check.due("far(2)", first.far(2), 1 + 4);
        check.due("asked(), the first CELL of all", first.asked(), 0);
    }

    private static void kindsOf(Check check, ShyStrip x, int due, int... papers) {
        Lands.papers(x, 1, papers);
        check.due("kinds(0, 1)", x.kinds(0, 1), due);
    }

    private static void kinds(Check check) {
        check.promise(32);
        ShyStrip x = Lands.of("n92500 p310");
        kindsOf(check, x, 0b111111);
        kindsOf(check, x, 0b111111, 2, 5, 1);
        kindsOf(check, x, 0b000000, 2, 5, 0);
        kindsOf(check, x, 0b110111, 3, 4, 1);
        kindsOf(check, x, 0b001000, 3, 4, 0);
        kindsOf(check, x, 0b010010, 1, 2, 1);
        kindsOf(check, x, 0b111001, 4, 6, 0);
        kindsOf(check, x, 0b000010, 4, 9, 1, 6, 6, 1);
        kindsOf(check, x, 0b010010, 0, 2, 1, 0, 0, 1);
        kindsOf(check, x, 0b110110, 3, 3, 1);
        kindsOf(check, x, 0b100000, 3, 3, 1, 4, 4, 0, 0, 3, 0);
        kindsOf(check, x, 0b000000, 3, 4, 1, 3, 4, 0);
        kindsOf(check, x, 0b111111, 0, 6, 1);
        // one who was not OUT at first, by COASTS at first as they were, though now it is in it
        ShyStrip y = Lands.of("n92500 h110");
        y.step(0, 1);
        y.step(0, 1);
        kindsOf(check, y, 0b001101, 0, 9, 1, 1, 4, 1);
        y.walk(0, 2);
        kindsOf(check, y, 0b001101, 2, 6, 1);
        // CELLS now
        kindsOf(check, y, 0b100101, 2, 3, 1);
        check.due("belong() stays", y.belong(), 1);
    }

    private static void spotsOf(Check check, ShyStrip x, int i, int due, int... papers) {
        Lands.papers(x, 1, papers);
        check.due("spots(" + i + ", 1)", x.spots(i, 1), due);
    }

    private static void spots(Check check) {
        check.promise(33);
        ShyStrip x = Lands.of("n72500 p310 o310 l310 h310 t310 f310");
        for (int i = 0; i < 6; i++) {
            spotsOf(check, x, i, 0b1111111);
        }
        spotsOf(check, x, 0, 0b0011100, 2, 5, 1);
        spotsOf(check, x, 0, 0b0011000, 2, 5, 1, 3, 6, 1);
        spotsOf(check, x, 0, 0b0010000, 2, 5, 1, 3, 6, 1, 3, 4, 0);
        spotsOf(check, x, 1, 0b1111111, 2, 5, 1);
        spotsOf(check, x, 1, 0b0000000, 2, 5, 0);
        spotsOf(check, x, 2, 0b0111110, 2, 5, 1);
        spotsOf(check, x, 2, 0b1000001, 2, 5, 0);
        spotsOf(check, x, 3, 0b0011100, 2, 5, 1);
        spotsOf(check, x, 3, 0b0000000, 2, 4, 1);
        spotsOf(check, x, 4, 0b1111100, 2, 5, 1);
        spotsOf(check, x, 4, 0b0000011, 2, 5, 0);
        spotsOf(check, x, 5, 0b0001000, 2, 5, 1);
        spotsOf(check, x, 5, 0b1110111, 2, 5, 0);
        x.walk(1, 2);
        x.walk(1, 1);
        spotsOf(check, x, 1, 0b1111111, 2, 5, 1);
        ShyStrip y = Lands.of("n31200 o210");
        y.walk(0, 1);
        spotsOf(check, y, 0, 0b000, 0, 3, 1);
        spotsOf(check, y, 0, 0b111, 0, 3, 0);
    }

    private static int papersOf(ShyStrip x, boolean kinds, int i, int r) {
        return kinds ? x.kinds(i, r) : x.spots(i, r);
    }

    private static void papersRefused(Check check, boolean kinds) {
        check.promise(kinds ? 32 : 33);
        check.due("without PEOPLE", papersOf(new ShyStrip(), kinds, 0, 0), BAD);
        ShyStrip x = Lands.of("n72500 p310");
        check.due("one that is none", papersOf(x, kinds, 1, 1), BAD);
        check.due("one that is none", papersOf(x, kinds, -1, 1), BAD);
        check.due("a ROW that is none", papersOf(x, kinds, 0, 6), BAD);
        check.due("a ROW that is none", papersOf(x, kinds, 0, -1), BAD);
        check.dueFinding(x, "a ROW that is missing", () -> papersOf(x, kinds, 0, 1), 1);
        Lands.papers(x, 1, -1, 0);
        check.dueFinding(x, "not by triples", () -> papersOf(x, kinds, 0, 1), 5);
        Lands.papers(x, 1, -1, 0, 0, 0);
        check.dueFinding(x, "not by triples", () -> papersOf(x, kinds, 0, 1), 5);
        int[][] unlike = {{-1, 2, 1}, {3, 2, 1}, {0, 8, 1}, {8, 8, 1}, {0, 2, 2}, {0, 2, -1}};
        for (int[] papers : unlike) {
            Lands.papers(x, 1, papers);
            check.dueFinding(x, "papers that can't be", () -> papersOf(x, kinds, 0, 1), 3);
            Lands.papers(x, 1, 0, 0, 1, 7, 7, 0, papers[0], papers[1], papers[2]);
            check.dueFinding(x, "papers that can't be", () -> papersOf(x, kinds, 0, 1), 3);
        }
        Lands.papers(x, 1, new int[39]);
        check.due("13 papers of no STRIP", papersOf(x, kinds, 0, 1) < 0 ? 1 : 0, 0);
        check.due("asked() stays", x.asked(), 0);
    }
}
