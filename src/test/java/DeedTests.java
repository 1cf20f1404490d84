/** Promises 15 to 20: YEARS, steps, WALKS, undone; LANDS kept. */
final class DeedTests {
    private static final int BAD = ShyStrip.BAD, STATE = ShyStrip.STATE, FULL = ShyStrip.FULL;

    private DeedTests() {
    }

    static void run(Check check) {
        year(check);
        step(check);
        walk(check);
        undo(check);
        keep(check);
        on(check);
    }

    private static void coastsDue(Check check, String call, ShyStrip x, int west, int east) {
        check.due(call + ", the WEST's COAST", x.count(4), west);
        check.due(call + ", the EAST's COAST", x.count(5), east);
    }

    private static void yearOf(Check check, String land, int west, int east) {
        ShyStrip x = Lands.of(land);
        check.due("year() of " + land, x.year(), east - west);
        coastsDue(check, "year() of " + land, x, west, east);
        check.due("count(2)", x.count(2), 1);
        check.due("count(3)", x.count(3), 1);
    }

    private static void year(Check check) {
        check.promise(15);
        check.due("year() without CELLS", new ShyStrip().year(), STATE);
        yearOf(check, "n92500 p310", 1, 6);
        yearOf(check, "n92500 p310 p010", 3, 6);
        yearOf(check, "n92500 p310 p810", 1, 4);
        yearOf(check, "n92500 p320 p010 p810", 1, 6);
        yearOf(check, "n92500 p320 p010 p110 p810", 3, 6);
        yearOf(check, "n92500 p000", 3, 4);
        yearOf(check, "n92300 p000", 3, 3);
        yearOf(check, "n92400 p000", 3, 3);
        yearOf(check, "n92200 p000", 2, 2);
        yearOf(check, "n92300 p210 p020", 3, 4);
        yearOf(check, "n92300 p210 p820", 1, 2);
        yearOf(check, "n90900 p310", 0, 9);
        yearOf(check, "n90100 p010 p820", 0, 0);
        yearOf(check, "n98900 p810 p020", 9, 9);
        yearOf(check, "n93300 l320", 2, 4);
        yearOf(check, "n93300 l320 p030", 3, 4);
        ShyStrip x = Lands.of("n92500 p310 p010 p830");
        check.due("year() 1", x.year(), 1);
        coastsDue(check, "year() 1", x, 3, 4);
        check.due("year() 2, the WEST alone comes on", x.year(), 0);
        coastsDue(check, "year() 2", x, 4, 4);
        for (int y = 3; y <= 40; y++) {
            check.due("year() " + y + ", none to come on to", x.year(), 0);
        }
        coastsDue(check, "year() 40", x, 4, 4);
        long digest = x.digest();
        check.due("year() behind 40 DEEDS", x.year(), FULL);
        check.due("digest() stays", x.digest(), digest);
        check.due("count(2)", x.count(2), 40);
    }

    private static void step(Check check) {
        check.promise(16);
        ShyStrip none = new ShyStrip();
        check.due("step(0, 1) without CELLS", none.step(0, 1), STATE);
        check.due("step(2, 1) without CELLS", none.step(2, 1), BAD);
        ShyStrip x = Lands.of("n31200 p000");
        check.due("step(2, 1)", x.step(2, 1), BAD);
        check.due("step(-1, 1)", x.step(-1, 1), BAD);
        check.due("step(0, 0)", x.step(0, 0), BAD);
        check.due("step(0, 2)", x.step(0, 2), BAD);
        check.due("step(1, -2)", x.step(1, -2), BAD);
        check.due("step(0, 1)", x.step(0, 1), 2);
        coastsDue(check, "step(0, 1)", x, 0, 2);
        check.due("step(0, 1), none to draw back from", x.step(0, 1), STATE);
        check.due("step(1, 1)", x.step(1, 1), 3);
        coastsDue(check, "step(1, 1)", x, 0, 3);
        check.due("step(1, 1), none to draw back from", x.step(1, 1), STATE);
        check.due("step(1, -1)", x.step(1, -1), 2);
        check.due("step(0, -1)", x.step(0, -1), 1);
        coastsDue(check, "step(0, -1)", x, 1, 2);
        check.due("step(1, -1)", x.step(1, -1), 0);
        coastsDue(check, "step(1, -1)", x, 1, 1);
        check.due("step(1, -1), none to come on to", x.step(1, -1), STATE);
        check.due("step(0, -1), none to come on to", x.step(0, -1), STATE);
        check.due("count(3)", x.count(3), 5);
        check.due("count(2)", x.count(2), 0);
        for (int d = 5; d < 40; d++) {
            x.step(0, d % 2 == 1 ? 1 : -1);
        }
        check.due("count(3)", x.count(3), 40);
        check.due("step(0, -1) behind 40 DEEDS", x.step(0, -1), FULL);
        check.due("step(0, 1) behind 40 DEEDS, none to draw back from", x.step(0, 1), STATE);
        check.due("step(0, 0) behind 40 DEEDS", x.step(0, 0), BAD);
    }

    private static void walk(Check check) {
        check.promise(17);
        check.due("walk(0, 0) without PEOPLE", new ShyStrip().walk(0, 0), BAD);
        ShyStrip x = Lands.of("n31200 p010 p210");
        check.due("walk(2, 0)", x.walk(2, 0), BAD);
        check.due("walk(-1, 0)", x.walk(-1, 0), BAD);
        check.due("walk(0, 3)", x.walk(0, 3), BAD);
        check.due("walk(0, -1)", x.walk(0, -1), BAD);
        check.due("walk(0, 0)", x.walk(0, 0), STATE);
        check.due("walk(0, 2)", x.walk(0, 2), STATE);
        check.due("walk(0, 1)", x.walk(0, 1), 1);
        check.due("walk(1, 1)", x.walk(1, 1), 1);
        check.due("walk(1, 2)", x.walk(1, 2), 0);
        check.due("walk(0, 0)", x.walk(0, 0), 0);
        check.due("count(3)", x.count(3), 4);
        check.due("count(2)", x.count(2), 0);
        for (int d = 4; d < 40; d++) {
            x.walk(0, d % 2 == 0 ? 1 : 0);
        }
        check.due("count(3)", x.count(3), 40);
        check.due("walk(0, 1) behind 40 DEEDS", x.walk(0, 1), FULL);
        check.due("walk(0, 2) behind 40 DEEDS", x.walk(0, 2), STATE);
        check.due("walk(0, 3) behind 40 DEEDS", x.walk(0, 3), BAD);
        check.dueAsked(x, "one(0, 1)", x.one(0, 1), 0);
    }

    private static void undo(Check check) {
        check.promise(18);
        ShyStrip x = Lands.of("n92500 p310 l850 t350");
        long[] digests = new long[5];
        digests[0] = x.digest();
        x.year();
        digests[1] = x.digest();
        x.walk(1, 7);
        digests[2] = x.digest();
        x.step(1, -1);
        digests[3] = x.digest();
        x.lots(4, 99);
        check.due("undo(8)", x.undo(8), BAD);
        check.due("undo(-1)", x.undo(-1), BAD);
        check.due("undo(7)", x.undo(7), 0);
        check.due("undo(3)", x.undo(3), 4);
        check.due("digest() of 3 DEEDS", x.digest(), digests[3]);
        check.due("undo(2)", x.undo(2), 1);
        check.due("digest() of 2 DEEDS", x.digest(), digests[2]);
        check.due("undo(0)", x.undo(0), 2);
        check.due("digest() of no DEEDS", x.digest(), digests[0]);
        check.due("count(2)", x.count(2), 0);
        check.due("year()", x.year() >= 0 ? 1 : 0, 1);
        check.due("digest() of the YEAR anew", x.digest(), digests[1]);
        check.due("undo(0) without CELLS", new ShyStrip().undo(0), 0);
        check.due("undo(1) without CELLS", new ShyStrip().undo(1), BAD);
    }

    private static void keep(Check check) {
        check.promise(19);
        ShyStrip x = new ShyStrip();
        check.due("keep(3)", x.keep(3), BAD);
        check.due("keep(-1)", x.keep(-1), BAD);
        check.due("keep(0) without CELLS", x.keep(0), STATE);
        Lands.write(x, 0, "n92500 p310");
        x.land(0);
        check.due("keep(0)", x.keep(0), 0);
        x.year();
        x.walk(0, 4);
        check.due("keep(2)", x.keep(2), 2);
        check.due("count(10)", x.count(10), 2);
        check.due("keep(0) again", x.keep(0), 2);
        check.due("count(10)", x.count(10), 2);
        x.undo(0);
        check.due("on(0)", x.on(0), 2);
    }

    private static void on(Check check) {
        check.promise(20);
        ShyStrip x = new ShyStrip();
        check.due("on(3)", x.on(3), BAD);
        check.due("on(-1)", x.on(-1), BAD);
        check.dueFinding(x, "on(1)", () -> x.on(1), 1);
        Lands.write(x, 0, "n92500 p310 f440");
        x.land(0);
        x.year();
        x.walk(0, 4);
        x.keep(1);
        long digest = x.digest();
        x.walk(1, 5);
        x.year();
        x.step(0, -1);
        check.due("on(1)", x.on(1), 2);
        check.due("digest() as it was kept", x.digest(), digest);
        check.due("undo(1)", x.undo(1), 1);
        check.dueAsked(x, "one(0, 1)", x.one(0, 1), 3);
        check.due("on(1) again", x.on(1), 2);
        check.due("digest() as it was kept", x.digest(), digest);
        x.undo(0);
        x.walk(1, 3);
        check.due("on(1), other DEEDS ahead", x.on(1), 2);
        check.due("digest() as it was kept", x.digest(), digest);
        x.undo(1);
        check.dueAsked(x, "one(1, 1)", x.one(1, 1), 4);
        check.dueFinding(x, "on(0)", () -> x.on(0), 1);
    }
}
