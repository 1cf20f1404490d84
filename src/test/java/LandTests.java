/** Promises 10 to 14: FAULTS, LANDS, PEOPLE, their marks, COASTS. */
final class LandTests {
    private static final int BAD = ShyStrip.BAD, STATE = ShyStrip.STATE, NONE = ShyStrip.NONE;

    private LandTests() {
    }

    static void run(Check check) {
        fault(check);
        land(check);
        one(check);
        votesOfKinds(check);
        whoBelongs(check);
        mark(check);
        coast(check);
    }

    private static void fault(Check check) {
        check.promise(10);
        ShyStrip x = new ShyStrip();
        check.due("fault(4)", x.fault(4), BAD);
        check.due("fault(-1)", x.fault(-1), BAD);
        check.dueFinding(x, "fault(3)", () -> x.fault(3), 1);
        faultOf(check, "", 0);
        faultOf(check, "   ", 3);
        faultOf(check, "p", 0);
        faultOf(check, "  p", 2);
        faultOf(check, "n", 1);
        faultOf(check, "n2", 1);
        faultOf(check, "n:", 1);
        faultOf(check, "n 3", 1);
        faultOf(check, "n34", 2);
        faultOf(check, "n321", 3);
        faultOf(check, "n3338", 4);
        faultOf(check, "n33378", 5);
        faultOf(check, "n3337/", 5);
        faultOf(check, "n33377", 6);
        faultOf(check, "n33377    ", 10);
        faultOf(check, "n33377 n33377", 7);
        faultOf(check, "n33377p3", 7);
        faultOf(check, "n33377p2", 8);
        faultOf(check, "n33377p2:", 8);
        faultOf(check, "n33377p2 9", 8);
        faultOf(check, "n33377p298", 9);
        faultOf(check, "n33377p297P", 10);
        faultOf(check, "n33377p297p297p297p297p297p297p", 30);
        faultOf(check, "n33377p297p297p297p297p297p297  x", 32);
        faultOf(check, "n33377p297p297p297p297p297p297  ", NONE);
        faultOf(check, "n90977 p897 o897 l897 h897 t897 f897", NONE);
        faultOf(check, "n90977 p897 o897 l897 h897 t897 f89", 35);
        faultOf(check, "n90000p997", 7);
        faultOf(check, "  n30000p000", NONE);
        Lands.write(x, 3, "n30000p000");
        x.put(3, 6, 112 - 256);
        check.due("fault(3), a byte that is cut", x.fault(3), NONE);
        x.put(3, 6, -112);
        check.due("fault(3), a byte below 0", x.fault(3), 6);
        check.due("count(1)", x.count(1), 0);
    }

    private static void faultOf(Check check, String text, int due) {
        ShyStrip x = new ShyStrip();
        Lands.write(x, 2, text);
        long digest = x.digest();
        check.due("fault(2) of '" + text + "'", x.fault(2), due);
        check.due("digest() behind fault(2)", x.digest(), digest);
        check.due("land(2) of '" + text + "'", x.land(2) == STATE ? 1 : 0, due == NONE ? 0 : 1);
    }

    private static void land(Check check) {
        check.promise(11);
        ShyStrip x = new ShyStrip();
        check.due("land(4)", x.land(4), BAD);
        check.due("land(-1)", x.land(-1), BAD);
        check.dueFinding(x, "land(0)", () -> x.land(0), 1);
        Lands.write(x, 0, "n52413 p312 l096");
        check.due("land(0)", x.land(0), 2);
        x.year();
        x.walk(0, 2);
        x.keep(0);
        x.keep(2);
        Lands.write(x, 1, "n90977");
        long digest = x.digest();
        check.due("land(1)", x.land(1), STATE);
        check.due("digest() stays", x.digest(), digest);
        check.due("count(10) stays", x.count(10), 2);
        Lands.write(x, 1, "n31200 h200");
        check.due("land(1)", x.land(1), 1);
        check.due("count(0)", x.count(0), 1);
        check.due("count(1)", x.count(1), 3);
        check.due("count(2)", x.count(2), 0);
        check.due("count(3)", x.count(3), 0);
        check.due("count(4)", x.count(4), 1);
        check.due("count(5)", x.count(5), 2);
        check.due("count(10)", x.count(10), 0);
        check.dueFinding(x, "on(0)", () -> x.on(0), 1);
        check.due("undo(1)", x.undo(1), BAD);
        x.text(1, 0);
        check.due("count(0), the TEXT gone", x.count(0), 1);
    }

    private static void one(Check check) {
        check.promise(12);
        ShyStrip x = Lands.of("n82514 p335 o462 l586 h247 t321 f361");
        int[][] due = {
            {0, 3, 3, 3, 5, 1}, {1, 4, 4, 6, 2, 1}, {2, 5, 5, 4, 6, 1},
            {3, 2, 2, 1, 7, 1}, {4, 3, 3, 4, 1, 1}, {5, 3, 3, 4, 1, 1},
        };
        for (int i = 0; i < 6; i++) {
            for (int what = 0; what < 6; what++) {
                check.dueAsked(x, "one(" + i + ", " + what + ")", x.one(i, what), due[i][what]);
            }
        }
        check.due("one(6, 0)", x.one(6, 0), BAD);
        check.due("one(-1, 0)", x.one(-1, 0), BAD);
        check.due("one(0, 6)", x.one(0, 6), BAD);
        check.due("one(0, -1)", x.one(0, -1), BAD);
        check.due("asked() stays", x.asked(), 1);
        x.walk(0, 2);
        x.walk(0, 1);
        check.dueAsked(x, "one(0, 1)", x.one(0, 1), 1);
        check.dueAsked(x, "one(0, 2)", x.one(0, 2), 3);
        check.dueAsked(x, "one(0, 5)", x.one(0, 5), 0);
        check.due("one(0, 0) without PEOPLE", new ShyStrip().one(0, 0), BAD);
    }

    private static void votesOfKinds(Check check) {
        votesOf(check, 'p', "0123456789");
        votesOf(check, 'o', "0123456789");
        votesOf(check, 'l', "0011223344");
        votesOf(check, 'h', "1111111111");
        votesOf(check, 'f', "1122334455");
        for (int told = 0; told <= 9; told++) {
            ShyStrip x = Lands.of("n31200 t1" + told + "0");
            check.dueAsked(x, "one(0, 3) of t1" + told + "0", x.one(0, 3), 2 * told);
        }
    }

    private static void votesOf(Check check, char letter, String votes) {
        for (int told = 0; told <= 9; told++) {
            ShyStrip x = Lands.of("n31200 " + letter + "1" + told + "0");
            check.dueAsked(x, "one(0, 3) of " + letter + "1" + told + "0", x.one(0, 3), votes.charAt(told) - '0');
        }
    }

    /** By the CELLS of one of each KIND, in strips of all sizes; a 1 where one BELONGS. */
    private static void whoBelongs(Check check) {
        belongsIn(check, 'p', "n925", "001110000");
        belongsIn(check, 'o', "n925", "001110000");
        belongsIn(check, 'l', "n925", "011111000");
        belongsIn(check, 'h', "n925", "001110000");
        belongsIn(check, 't', "n925", "001110000");
        belongsIn(check, 'f', "n925", "000100000");
        belongsIn(check, 'h', "n924", "000000000");
        belongsIn(check, 'f', "n924", "000100000");
        belongsIn(check, 'f', "n923", "001000000");
        belongsIn(check, 'p', "n944", "000000000");
        belongsIn(check, 'o', "n944", "000000000");
        belongsIn(check, 'l', "n944", "000110000");
        belongsIn(check, 'f', "n944", "000010000");
        belongsIn(check, 'l', "n300", "100");
        belongsIn(check, 'f', "n300", "100");
        belongsIn(check, 'l', "n333", "001");
        belongsIn(check, 'f', "n333", "000");
        belongsIn(check, 'l', "n303", "111");
        belongsIn(check, 'h', "n303", "111");
        outStaysOne(check);
        postGoesWithTheWest(check);
    }

    private static void belongsIn(Check check, char letter, String sides, String due) {
        for (int c = 0; c < due.length(); c++) {
            ShyStrip x = Lands.of(sides + "00 " + letter + c + "50");
            String call = "one(0, 5) of " + sides + "00 " + letter + c + "50";
            check.dueAsked(x, call, x.one(0, 5), due.charAt(c) - '0');
        }
    }

    private static void outStaysOne(Check check) {
        ShyStrip x = Lands.of("n61300 o150 o350");
        x.walk(0, 0);
        x.walk(1, 2);
        check.dueAsked(x, "one(0, 5), OUT at first, now elsewhere", x.one(0, 5), 1);
        check.dueAsked(x, "one(1, 5), not OUT at first, now in it", x.one(1, 5), 0);
        x.step(0, -1);
        x.step(0, -1);
        check.dueAsked(x, "one(0, 5), its CELL no longer in it", x.one(0, 5), 1);
    }

    private static void postGoesWithTheWest(Check check) {
        ShyStrip x = Lands.of("n61300 t150 t250");
        x.step(0, -1);
        check.dueAsked(x, "one(0, 5), the POST's CELL the WEST's", x.one(0, 5), 0);
        check.dueAsked(x, "one(1, 5), the POST's CELL in it", x.one(1, 5), 1);
        x.walk(1, 3);
        check.dueAsked(x, "one(1, 5), the POST's CELL the EAST's", x.one(1, 5), 1);
    }

    private static void mark(Check check) {
        check.promise(13);
        ShyStrip x = Lands.of("n91300 p000 o150 l850 h150 t150 f050");
        check.due("mark(6, 1)", x.mark(6, 1), BAD);
        check.due("mark(-1, 1)", x.mark(-1, 1), BAD);
        check.due("mark(0, 0)", x.mark(0, 0), BAD);
        check.due("mark(0, 6)", x.mark(0, 6), BAD);
        check.due("mark(0, -1)", x.mark(0, -1), BAD);
        check.due("mark(0, 1) without PEOPLE", new ShyStrip().mark(0, 1), BAD);
        String[] are = {"", "1", "2", "3", "14", "25"};
        for (int i = 0; i < 6; i++) {
            for (int kind = 1; kind <= 5; kind++) {
                int who = i;
                int of = kind;
                if (are[i].indexOf((char) ('0' + kind)) < 0) {
                    check.dueFinding(x, "mark(" + i + ", " + kind + ")", () -> x.mark(who, of), 3);
                }
            }
        }
        check.due("mark(1, 1)", x.mark(1, 1), 0);
        check.due("mark(2, 2), east of it", x.mark(2, 2), 6);
        check.due("mark(3, 3)", x.mark(3, 3), 1);
        check.due("mark(4, 4)", x.mark(4, 4), 2);
        check.due("mark(4, 1)", x.mark(4, 1), 0);
        check.due("mark(5, 2), west of it", x.mark(5, 2), 1);
        check.due("mark(5, 5)", x.mark(5, 5), 2);
        x.walk(4, 0);
        check.due("mark(4, 1), walked", x.mark(4, 1), 1);
        check.due("mark(4, 4), with others", x.mark(4, 4), 2);
        x.walk(4, 1);
        check.due("mark(4, 1), back", x.mark(4, 1), 0);
        check.due("mark(0, 1) refused stays UNLIKE", x.finding(), 3);
        marksOfLadies(check);
        marksOfHares(check);
    }

    private static void marksOfLadies(Check check) {
        farOf(check, "n92500", "210001234");
        farOf(check, "n93400", "321012345");
        farOf(check, "n93300", "321012345");
        farOf(check, "n90000", "012345678");
        farOf(check, "n99900", "987654321");
        farOf(check, "n90900", "000000000");
    }

    private static void farOf(Check check, String sides, String due) {
        for (int c = 0; c < due.length(); c++) {
            ShyStrip x = Lands.of(sides + " l" + c + "00 f" + c + "00");
            check.due("mark(0, 2) of " + sides + " l" + c, x.mark(0, 2), due.charAt(c) - '0');
            check.due("mark(1, 2) of " + sides + " f" + c, x.mark(1, 2), due.charAt(c) - '0');
            check.due("mark(1, 5) of " + sides + " f" + c, x.mark(1, 5),
                    Math.abs(c - (sides.charAt(2) - '0' + sides.charAt(3) - '0') / 2));
        }
    }

    private static void marksOfHares(Check check) {
        String due = "321000000";
        for (int size = 0; size <= 8; size++) {
            ShyStrip x = Lands.of("n90" + size + "00 h000");
            check.due("mark(0, 3) in a STRIP of " + size, x.mark(0, 3), due.charAt(size) - '0');
        }
    }

    private static void coast(Check check) {
        check.promise(14);
        ShyStrip none = new ShyStrip();
        check.due("coast(0) without CELLS", none.coast(0), STATE);
        check.due("coast(5) without CELLS", none.coast(5), STATE);
        check.due("coast(6) without CELLS", none.coast(6), BAD);
        check.due("coast(-1) without CELLS", none.coast(-1), BAD);
        ShyStrip x = Lands.of("n72500 p030 p190 p210 l140 l060 p670");
        check.due("coast(0)", x.coast(0), 2);
        check.due("coast(1)", x.coast(1), 5);
        check.due("coast(2)", x.coast(2), 3);
        check.due("coast(3)", x.coast(3), 1 + 2);
        check.due("coast(4)", x.coast(4), 3 + 9 + 3);
        check.due("coast(5)", x.coast(5), 7);
        check.due("coast(6)", x.coast(6), BAD);
        check.due("coast(-1)", x.coast(-1), BAD);
        check.due("asked()", x.asked(), 0);
        x = Lands.of("n52200 p230 p120");
        check.due("coast(2), no STRIP", x.coast(2), 0);
        check.due("coast(3), no STRIP", x.coast(3), 0);
        check.due("coast(4), no STRIP", x.coast(4), 2);
        check.due("coast(5), no STRIP", x.coast(5), 3);
    }
}
