/** Promises 21 to 24: who BELONGS, LAWS, SEATS, the fewest. */
final class VoteTests {
    private static final int BAD = ShyStrip.BAD, STATE = ShyStrip.STATE, NONE = ShyStrip.NONE;

    private VoteTests() {
    }

    static void run(Check check) {
        belong(check);
        laws(check);
        seats(check);
        fewest(check);
    }

    private static void belong(Check check) {
        check.promise(21);
        check.due("belong() without CELLS", new ShyStrip().belong(), 0);
        ShyStrip x = Lands.of("n92500 p150 p250 o350 l550 h450 f250");
        check.due("belong()", x.belong(), 0b011110);
        x.step(0, -1);
        check.due("belong(), the STRIP of 2 CELLS", x.belong(), 0b001100);
        x.step(1, -1);
        check.due("belong(), the STRIP of 1 CELL", x.belong(), 0b000100);
        x.walk(3, 4);
        x.walk(5, 3);
        check.due("belong(), two have WALKED", x.belong(), 0b101100);
        check.due("asked()", x.asked(), 0);
    }

    private static void lawsOf(Check check, String land, int free, int passed) {
        ShyStrip x = Lands.of(land);
        check.due("laws() of " + land, x.laws(), free);
        check.due("asked()", x.asked(), passed);
    }

    private static void laws(Check check) {
        check.promise(22);
        check.due("laws() without CELLS", new ShyStrip().laws(), STATE);
        lawsOf(check, "n50500 p017", 7, 7);
        lawsOf(check, "n50512 p017", 4, 4);
        lawsOf(check, "n50577 p017", 0, 0);
        lawsOf(check, "n50507 p017", 0, 0);
        lawsOf(check, "n50500 p007", 7, 0);
        lawsOf(check, "n50500 p021 p022 p044", 7, 0);
        lawsOf(check, "n50500 p021 p022 p054", 7, 4);
        lawsOf(check, "n50500 p023 p022 p033", 7, 3);
        lawsOf(check, "n51500 p094 p121 p212", 7, 1);
        lawsOf(check, "n51500 l092 p151 p202", 7, 1);
        ShyStrip x = Lands.of("n50577 p017");
        x.row(0, 1);
        x.lay(0, 0, 9);
        x.at(0, 0);
        check.due("laws()", x.laws(), 0);
        check.due("asked(), none of them", x.asked(), 0);
    }

    private static void seatsOf(Check check, String land, int n, int people, long due) {
        ShyStrip x = Lands.of(land);
        check.due("seats(" + n + ", 5) of " + land, x.seats(n, 5), n);
        check.due("the ROW", Lands.figures(x, 5, people), due);
        check.due("the ROW's size", x.at(5, people), ShyStrip.FINDING);
    }

    private static void seats(Check check) {
        check.promise(23);
        check.due("seats(0, 0) without CELLS", new ShyStrip().seats(0, 0), STATE);
        check.due("seats(21, 0) without CELLS", new ShyStrip().seats(21, 0), BAD);
        seatsOf(check, "n50500 p060 p130 p210", 4, 3, 310);
        seatsOf(check, "n50500 p060 p130 p210", 3, 3, 210);
        seatsOf(check, "n50500 p060 p130 p210", 2, 3, 200);
        seatsOf(check, "n50500 p060 p130 p210", 1, 3, 100);
        seatsOf(check, "n50500 p060 p130 p210", 0, 3, 0);
        seatsOf(check, "n50500 p060 p130 p210", 10, 3, 631);
        seatsOf(check, "n50500 p030 p160 p230", 3, 3, 120);
        seatsOf(check, "n50500 p030 p160 p230", 2, 3, 110);
        seatsOf(check, "n51500 p090 p100 p210", 9, 3, 9);
        seatsOf(check, "n50500 p040 p020 p010 t020 l020 h050", 7, 6, 310300);
        ShyStrip x = Lands.of("n50500 p060");
        check.due("seats(20, 0)", x.seats(20, 0), 20);
        check.dueAsked(x, "at(0, 0)", x.at(0, 0), 20);
        long digest = x.digest();
        check.due("seats(21, 0)", x.seats(21, 0), BAD);
        check.due("seats(-1, 0)", x.seats(-1, 0), BAD);
        check.due("seats(1, 6)", x.seats(1, 6), BAD);
        check.due("seats(1, -1)", x.seats(1, -1), BAD);
        check.due("digest() stays", x.digest(), digest);
        x = Lands.of("n51500 p060 p300");
        x.row(0, 9);
        check.due("seats(5, 0), none has VOTES", x.seats(5, 0), 0);
        check.due("the ROW anew", Lands.figures(x, 0, 2), 0);
        check.due("the ROW's size", x.at(0, 2), ShyStrip.FINDING);
    }

    private static void fewestOf(Check check, String land, int due, int who) {
        ShyStrip x = Lands.of(land);
        check.due("fewest() of " + land, x.fewest(), due);
        check.due("asked()", x.asked(), who);
    }

    private static void fewest(Check check) {
        check.promise(24);
        check.due("fewest() without CELLS", new ShyStrip().fewest(), STATE);
        fewestOf(check, "n50500 p010", 1, 1);
        fewestOf(check, "n50500 p010 p010", 2, 3);
        fewestOf(check, "n50500 p010 p020 p010", 2, 3);
        fewestOf(check, "n50500 p010 p030 p010", 1, 2);
        fewestOf(check, "n50500 p010 p010 p010", 2, 3);
        fewestOf(check, "n50500 p010 p000 p010 p010", 2, 5);
        fewestOf(check, "n50500 p010 p050 p030 p020 p010", 2, 6);
        fewestOf(check, "n50500 p010 p030 p040 p030 p010", 2, 6);
        fewestOf(check, "n51500 p090 p110 p210", 2, 6);
        fewestOf(check, "n50500 p010 p010 p010 p010 p010 p010", 4, 15);
        ShyStrip x = Lands.of("n51500 p090 p100");
        x.row(0, 1);
        x.lay(0, 0, 9);
        x.at(0, 0);
        check.due("fewest(), nobody has any", x.fewest(), NONE);
        check.due("asked() stays", x.asked(), 9);
        check.due("finding() stays", x.finding(), 0);
    }
}
