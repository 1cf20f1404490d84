/** Promises 34 to 36: chances, means, LOTS. */
final class ChanceTests {
    private static final int BAD = ShyStrip.BAD, STATE = ShyStrip.STATE, FULL = ShyStrip.FULL;

    private ChanceTests() {
    }

    static void run(Check check) {
        odds(check);
        mid(check);
        lots(check);
        lotsRefused(check);
    }

    private static void odds(Check check) {
        check.promise(34);
        check.due("odds(0, 0) without CELLS", new ShyStrip().odds(0, 0), STATE);
        check.due("odds(100, 0) without CELLS", new ShyStrip().odds(100, 0), BAD);
        ShyStrip x = Lands.of("n92500 p320 p430 p190");
        check.dueFraction(x, "odds(0, 3)", x.odds(0, 3), 1, 1);
        check.dueFraction(x, "odds(1, 3)", x.odds(1, 3), 15, 16);
        check.dueFraction(x, "odds(2, 3)", x.odds(2, 3), 15, 16);
        check.dueFraction(x, "odds(3, 3)", x.odds(3, 3), 3, 4);
        check.dueFraction(x, "odds(4, 3)", x.odds(4, 3), 9, 16);
        check.dueFraction(x, "odds(5, 3)", x.odds(5, 3), 9, 16);
        check.dueFraction(x, "odds(6, 3)", x.odds(6, 3), 0, 1);
        check.dueFraction(x, "odds(5, 0)", x.odds(5, 0), 1, 1);
        check.dueFraction(x, "odds(1, 12)", x.odds(1, 12), 0, 1);
        check.dueFraction(x, "odds(0, 12)", x.odds(0, 12), 1, 1);
        check.dueFraction(x, "odds(3, 11)", x.odds(3, 11), 1, 12);
        check.dueFraction(x, "odds(5, 1)", x.odds(5, 1), 121, 144);
        check.due("odds(-1, 0)", x.odds(-1, 0), BAD);
        check.due("odds(100, 0)", x.odds(100, 0), BAD);
        check.due("odds(0, -1)", x.odds(0, -1), BAD);
        check.due("odds(0, 13)", x.odds(0, 13), BAD);
        check.due("upper() stays", x.upper(), 121);
        check.due("lower() stays", x.lower(), 144);
        check.due("asked() stays", x.asked(), 0);
        ShyStrip six = Lands.of("n90900 p090 p090 t090 p090 p090 p090");
        check.dueFraction(six, "odds(63, 5)", six.odds(63, 5), 117649, 2985984);
        check.dueFraction(six, "odds(99, 1)", six.odds(99, 1), 0, 1);
        ShyStrip nobody = Lands.of("n92200 p310");
        check.dueFraction(nobody, "odds(0, 6)", nobody.odds(0, 6), 1, 1);
        check.dueFraction(nobody, "odds(1, 6)", nobody.odds(1, 6), 0, 1);
    }

    private static void mid(Check check) {
        check.promise(35);
        check.due("mid(0) without CELLS", new ShyStrip().mid(0), STATE);
        check.due("mid(13) without CELLS", new ShyStrip().mid(13), BAD);
        ShyStrip x = Lands.of("n92500 p320 p430 p190");
        check.dueFraction(x, "mid(0)", x.mid(0), 3, 1);
        check.dueFraction(x, "mid(12)", x.mid(12), 0, 1);
        check.dueFraction(x, "mid(6)", x.mid(6), 2, 1);
        check.dueFraction(x, "mid(3)", x.mid(3), 21, 8);
        check.dueFraction(x, "mid(1)", x.mid(1), 209, 72);
        check.due("mid(-1)", x.mid(-1), BAD);
        check.due("mid(13)", x.mid(13), BAD);
        check.due("upper() stays", x.upper(), 209);
        ShyStrip even = Lands.of("n92500 p320 p420");
        check.dueFraction(even, "mid(6)", even.mid(6), 3, 2);
        ShyStrip nobody = Lands.of("n92200 p310");
        check.dueFraction(nobody, "mid(6)", nobody.mid(6), 0, 1);
    }

    /** By numbers got by hand: from 1 come 48271, 182605794, 1291394886. */
    private static void lots(Check check) {
        check.promise(36);
        ShyStrip x = Lands.of("n92500 p310 p410");
        // 48271 modulo 3 is 1, by 8 it is 6033, cut, whose rest by 2 is 1
        check.due("lots(1, 1)", x.lots(1, 1), 3);
        check.dueAsked(x, "one(1, 1)", x.one(1, 1), 3);
        check.dueAsked(x, "one(0, 1)", x.one(0, 1), 3);
        check.due("count(2)", x.count(2), 0);
        // 182605794 modulo 3 is 0
        check.due("lots(1, 48271)", x.lots(1, 48271), 5);
        check.due("count(2)", x.count(2), 1);
        // 1291394886 modulo 3 is 0
        check.due("lots(1, 182605794)", x.lots(1, 182605794), 7);
        check.due("count(3)", x.count(3), 3);
        long digest = x.digest();
        x.undo(0);
        check.due("lots(3, 1)", x.lots(3, 1), 7);
        check.due("digest() as one by one", x.digest(), digest);
        // 96542 modulo 3 is 2, by 8 it is 12067, cut, whose rest by 2 is 1
        check.due("lots(1, 2)", x.lots(1, 2), 7);
        check.dueAsked(x, "one(1, 1)", x.one(1, 1), 4);
        // the greatest seed: 2147435376 modulo 3 is 0
        check.due("lots(1, 2147483646)", x.lots(1, 2147483646), 8);
        ShyStrip west = Lands.of("n92500 p010");
        check.due("lots(1, 1) at the WEST's end", west.lots(1, 1), 3);
        check.dueAsked(west, "one(0, 1)", west.one(0, 1), 0);
        check.due("count(3)", west.count(3), 1);
        ShyStrip east = Lands.of("n92500 p810");
        check.due("lots(1, 2) at the EAST's end", east.lots(1, 2), 3);
        check.dueAsked(east, "one(0, 1)", east.one(0, 1), 8);
        check.due("count(3)", east.count(3), 1);
        check.due("count(2)", east.count(2), 0);
    }

    private static void lotsRefused(Check check) {
        ShyStrip none = new ShyStrip();
        check.due("lots(1, 1) without CELLS", none.lots(1, 1), STATE);
        check.due("lots(0, 1) without CELLS", none.lots(0, 1), BAD);
        ShyStrip x = Lands.of("n92500 p310 p410");
        check.due("lots(0, 1)", x.lots(0, 1), BAD);
        check.due("lots(21, 1)", x.lots(21, 1), BAD);
        check.due("lots(-1, 1)", x.lots(-1, 1), BAD);
        check.due("lots(1, 0)", x.lots(1, 0), BAD);
        check.due("lots(1, -1)", x.lots(1, -1), BAD);
        check.due("lots(1, 2147483647)", x.lots(1, 2147483647), BAD);
        check.due("count(3)", x.count(3), 0);
        check.due("lots(20, 7)", x.lots(20, 7) >= 0 ? 1 : 0, 1);
        x.year();
        long digest = x.digest();
        check.due("lots(20, 7), 41 DEEDS", x.lots(20, 7), FULL);
        check.due("digest() stays", x.digest(), digest);
        check.due("lots(19, 7)", x.lots(19, 7) >= 0 ? 1 : 0, 1);
        check.due("count(3)", x.count(3), 40);
        check.due("lots(1, 7)", x.lots(1, 7), FULL);
        check.due("lots(0, 7)", x.lots(0, 7), BAD);
    }
}
