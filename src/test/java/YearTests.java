/** Promises 25 to 29: YEARS aside, turns, peace. */
final class YearTests {
    private static final int BAD = ShyStrip.BAD, STATE = ShyStrip.STATE, NONE = ShyStrip.NONE;

    private YearTests() {
    }

    static void run(Check check) {
        then(check);
        when(check);
        round(check);
        roundIsAllThatComes(check);
        duel(check);
        peace(check);
    }

    private static void thenOf(Check check, ShyStrip x, int n, int coasts, int who) {
        check.due("then(" + n + ")", x.then(n), coasts);
        check.due("asked()", x.asked(), who);
    }

    private static void then(Check check) {
        check.promise(25);
        check.due("then(0) without CELLS", new ShyStrip().then(0), STATE);
        check.due("then(31) without CELLS", new ShyStrip().then(31), BAD);
        ShyStrip x = Lands.of("n92500 p310 p710 p110");
        long digest = x.digest();
        check.due("then(31)", x.then(31), BAD);
        check.due("then(-1)", x.then(-1), BAD);
        thenOf(check, x, 0, 25, 1);
        // the WEST's and the EAST's one vote each are as many as the STRIP's
        thenOf(check, x, 1, 34, 1);
        thenOf(check, x, 2, 44, 0);
        thenOf(check, x, 3, 44, 0);
        thenOf(check, x, 30, 44, 0);
        check.due("digest() stays", x.digest(), digest);
        x = Lands.of("n92500 p320 p710 p110");
        thenOf(check, x, 1, 16, 5);
        thenOf(check, x, 2, 7, 5);
        thenOf(check, x, 3, 8, 7);
        thenOf(check, x, 4, 9, 7);
        thenOf(check, x, 30, 9, 7);
        for (int n = 0; n <= 30; n++) {
            int coasts = x.then(n);
            ShyStrip real = Lands.of("n92500 p320 p710 p110");
            for (int y = 0; y < n; y++) {
                real.year();
            }
            check.due("then(" + n + ") as years are", coasts, 10 * real.count(4) + real.count(5));
        }
    }

    private static void when(Check check) {
        check.promise(26);
        ShyStrip none = new ShyStrip();
        check.due("when(0, 0) without CELLS", none.when(0, 0), STATE);
        check.due("when(-1, 99) without CELLS", none.when(-1, 99), STATE);
        ShyStrip x = Lands.of("n72500 p320 p610 p110");
        long digest = x.digest();
        check.due("when(2, 5)", x.when(2, 5), 0);
        check.due("when(1, 6)", x.when(1, 6), 1);
        check.due("when(0, 7)", x.when(0, 7), 2);
        check.due("when(0, 6)", x.when(0, 6), NONE);
        check.due("when(7, 7)", x.when(7, 7), NONE);
        check.due("when(-1, 5)", x.when(-1, 5), BAD);
        check.due("when(3, 2)", x.when(3, 2), BAD);
        check.due("when(0, 8)", x.when(0, 8), BAD);
        check.due("when(8, 8)", x.when(8, 8), BAD);
        check.due("digest() stays", x.digest(), digest);
        check.due("asked() stays", x.asked(), 0);
    }

    private static void roundOf(Check check, String land, int behind, int ago) {
        ShyStrip x = Lands.of(land);
        check.due("round() of " + land, x.round(), behind);
        check.due("asked()", x.asked(), ago);
    }

    private static void round(Check check) {
        check.promise(27);
        check.due("round() without CELLS", new ShyStrip().round(), STATE);
        roundOf(check, "n92500 p310 p710 p110", 3, 1);
        roundOf(check, "n92500 p320 p710 p110", 5, 1);
        roundOf(check, "n90000 p000", 1, 1);
        // the HARE BELONGS as long as the STRIP has 3 CELLS, and nobody else has VOTES
        roundOf(check, "n90300 h000 p300", 7, 1);
        // the FLAG BELONGS in STRIPS of 4, 5 CELLS, not of 6: back and forth
        roundOf(check, "n90400 o010 f220 p820", 3, 2);
    }

    private static final String[] LANDS = {
        "n92500 p310 p710 p110", "n90400 o010 f220 p820", "n93600 h490 f440 t321 p120 p830 l660",
        "n93600 o410 p120 p840 h500", "n84400 l440 p310 p710", "n93700 o510 p030 p840 l250",
    };

    /** By then(), as far as that tells. */
    private static void roundIsAllThatComes(Check check) {
        for (String land : LANDS) {
            ShyStrip x = Lands.of(land);
            int behind = x.round();
            int ago = x.asked();
            check.due("round() as then() tells of " + land, x.then(behind), x.then(behind - ago));
            for (int y = 1; y < behind; y++) {
                for (int ahead = 0; ahead < y; ahead++) {
                    check.due("not ahead of round()", x.then(y) == x.then(ahead) ? 1 : 0, 0);
                }
            }
        }
    }

    private static void duel(Check check) {
        check.promise(28);
        check.due("duel(0) without CELLS", new ShyStrip().duel(0), STATE);
        check.due("duel(7) without CELLS", new ShyStrip().duel(7), BAD);
        ShyStrip x = Lands.of("n92400 p210 p320 p440 p170 p590");
        long digest = x.digest();
        check.due("duel(7)", x.duel(7), BAD);
        check.due("duel(-1)", x.duel(-1), BAD);
        check.due("duel(0)", x.duel(0), 3);
        check.due("duel(1), the WEST comes on", x.duel(1), 2);
        check.due("duel(2), the EAST draws back", x.duel(2), 6);
        check.due("duel(3), the WEST comes on twice", x.duel(3), 4);
        check.due("duel(4)", x.duel(4), 13);
        check.due("digest() stays", x.digest(), digest);
        check.due("asked() stays", x.asked(), 0);
        ShyStrip lady = Lands.of("n43300 l380 p110");
        check.due("duel(0), the LADY right east", lady.duel(0), 4);
        check.due("duel(1), the WEST stays, draws back", lady.duel(1), 4);
        ShyStrip flag = Lands.of("n91400 f280 p190");
        check.due("duel(0)", flag.duel(0), 14);
        check.due("duel(1), the WEST comes on", flag.duel(1), 0);
        flag = Lands.of("n92400 f380");
        check.due("duel(0), the FLAG in the middle", flag.duel(0), 5);
        check.due("duel(1), the WEST draws back", flag.duel(1), 0);
        ShyStrip flags = Lands.of("n92400 f240 f300 f480");
        check.due("duel(0), the FLAG in the middle", flags.duel(0), 1);
        check.due("duel(2), the EAST comes on", flags.duel(2), 3);
        // the WEST comes on thrice, the EAST draws back thrice
        ShyStrip all = Lands.of("n91500 p110 p210 p310 p410 p510 p610");
        check.due("duel(5)", all.duel(5), 3);
        check.due("duel(6)", all.duel(6), 3);
        all = Lands.of("n91500 p110 p210 p310 p510 p610 p790");
        check.due("duel(5)", all.duel(5), 2);
        check.due("duel(6)", all.duel(6), 11);
    }

    private static void peaceOf(Check check, String land, int n, int due, int... crowns) {
        ShyStrip x = Lands.of(land);
        x.row(3, 40);
        check.due("peace(" + n + ", 3) of " + land, x.peace(n, 3), due);
        for (int i = 0; i < crowns.length; i++) {
            check.dueAsked(x, "at(3, " + i + ")", x.at(3, i), crowns[i]);
        }
        check.due("the ROW's size", x.at(3, crowns.length), ShyStrip.FINDING);
    }

    private static void peace(Check check) {
        check.promise(29);
        check.due("peace(0, 0) without CELLS", new ShyStrip().peace(0, 0), STATE);
        check.due("peace(100, 0) without CELLS", new ShyStrip().peace(100, 0), BAD);
        peaceOf(check, "n50500 p010", 99, NONE, 99);
        peaceOf(check, "n50500 p010 p010", 9, 4, 5, 4);
        peaceOf(check, "n50500 p010 p010", 8, NONE, 4, 4);
        peaceOf(check, "n50500 p010 p020 p010", 7, 1, 2, 4, 1);
        peaceOf(check, "n50500 p020 p010", 4, NONE, 3, 1);
        peaceOf(check, "n50500 p010 p020", 2, NONE, 1, 1);
        peaceOf(check, "n50500 p010 p020", 1, 0, 1, 0);
        peaceOf(check, "n50500 p000 p010 p020", 2, 0, 1, 0, 1);
        peaceOf(check, "n50500 p000 p030 p030", 3, NONE, 1, 1, 1);
        peaceOf(check, "n50500 p000 p010 p010 p010", 2, 0, 1, 1, 0, 0);
        peaceOf(check, "n51500 p090 p110 p020 p110", 5, 2, 0, 3, 0, 2);
        peaceOf(check, "n51500 p090 p110", 0, NONE, 0, 0);
        ShyStrip x = Lands.of("n51500 p090 p100");
        x.row(0, 3);
        long digest = x.digest();
        check.due("peace(5, 0), nobody who BELONGS has VOTES", x.peace(5, 0), STATE);
        check.due("peace(100, 0)", x.peace(100, 0), BAD);
        check.due("peace(-1, 0)", x.peace(-1, 0), BAD);
        check.due("peace(5, 6)", x.peace(5, 6), BAD);
        check.due("peace(5, -1)", x.peace(5, -1), BAD);
        check.due("digest() stays", x.digest(), digest);
        check.due("asked() stays", x.asked(), 0);
    }
}
