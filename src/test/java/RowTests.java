/** Promises 1 to 9: a new object, ROWS, the bytes of TEXTS. */
final class RowTests {
    private static final int BAD = ShyStrip.BAD;
    private static final int MIN = Integer.MIN_VALUE, MAX = Integer.MAX_VALUE;

    private RowTests() {
    }

    static void run(Check check) {
        aNewObject(check);
        row(check);
        lay(check);
        at(check);
        tear(check);
        copy(check);
        copyRefused(check);
        mean(check);
        text(check);
        put(check);
    }

    private static void aNewObject(Check check) {
        check.promise(1);
        ShyStrip x = new ShyStrip();
        for (int what = 0; what <= 10; what++) {
            check.due("count(" + what + ")", x.count(what), 0);
        }
        check.due("finding()", x.finding(), 0);
        check.due("belong()", x.belong(), 0);
        check.due("undo(0)", x.undo(0), 0);
        check.due("coast(0)", x.coast(0), ShyStrip.STATE);
        check.due("one(0, 0)", x.one(0, 0), BAD);
        for (int r = 0; r < 6; r++) {
            int at = r;
            check.dueFinding(x, "at(" + r + ", 0)", () -> x.at(at, 0), 1);
        }
        for (int t = 0; t < 4; t++) {
            int at = t;
            check.dueFinding(x, "fault(" + t + ")", () -> x.fault(at), 1);
        }
        for (int k = 0; k < 3; k++) {
            int at = k;
            check.dueFinding(x, "on(" + k + ")", () -> x.on(at), 1);
        }
        ShyStrip other = new ShyStrip();
        other.row(0, 1);
        check.due("count(8) of another object", x.count(8), 0);
    }

    private static void row(Check check) {
        check.promise(2);
        ShyStrip x = new ShyStrip();
        check.due("row(0, 0)", x.row(0, 0), 0);
        check.due("row(5, 40)", x.row(5, 40), 40);
        check.due("row(0, 41)", x.row(0, 41), BAD);
        check.due("row(0, MAX)", x.row(0, MAX), BAD);
        check.due("row(6, 1)", x.row(6, 1), BAD);
        check.due("row(-1, 1)", x.row(-1, 1), BAD);
        check.due("row(6, -1)", x.row(6, -1), BAD);
        check.due("count(8)", x.count(8), 2);
        check.due("finding()", x.finding(), 0);
        check.dueFinding(x, "row(5, -1)", () -> x.row(5, -1), 5);
        check.dueFinding(x, "row(5, MIN)", () -> x.row(5, MIN), 5);
        x.lay(5, 0, 6);
        x.lay(5, 39, 7);
        check.dueAsked(x, "at(5, 39)", x.at(5, 39), 7);
        check.due("row(5, 3) anew", x.row(5, 3), 3);
        check.dueAsked(x, "at(5, 0)", x.at(5, 0), 0);
        check.due("row(5, 40) anew", x.row(5, 40), 40);
        check.dueAsked(x, "at(5, 39)", x.at(5, 39), 0);
    }

    private static void lay(Check check) {
        check.promise(3);
        ShyStrip x = new ShyStrip();
        check.due("lay(6, 0, 0)", x.lay(6, 0, 0), BAD);
        check.due("lay(-1, 0, 0)", x.lay(-1, 0, 0), BAD);
        check.dueFinding(x, "lay(0, 0, 0)", () -> x.lay(0, 0, 0), 1);
        x.row(0, 3);
        check.dueAsked(x, "lay(0, 2, MIN)", x.lay(0, 2, MIN), 0);
        check.dueAsked(x, "lay(0, 2, MAX)", x.lay(0, 2, MAX), MIN);
        check.dueAsked(x, "lay(0, 2, 5)", x.lay(0, 2, 5), MAX);
        check.dueFinding(x, "lay(0, 3, 0)", () -> x.lay(0, 3, 0), 2);
        check.dueFinding(x, "lay(0, -1, 0)", () -> x.lay(0, -1, 0), 2);
        check.dueFinding(x, "lay(0, MAX, 0)", () -> x.lay(0, MAX, 0), 2);
        check.dueAsked(x, "at(0, 0)", x.at(0, 0), 0);
    }

    private static void at(Check check) {
        check.promise(4);
        ShyStrip x = new ShyStrip();
        check.due("at(6, 0)", x.at(6, 0), BAD);
        check.due("at(MIN, 0)", x.at(MIN, 0), BAD);
        check.dueFinding(x, "at(3, 0)", () -> x.at(3, 0), 1);
        Lands.papers(x, 3, 11, -12, 13);
        check.dueAsked(x, "at(3, 0)", x.at(3, 0), 11);
        check.dueAsked(x, "at(3, 1)", x.at(3, 1), -12);
        check.dueAsked(x, "at(3, 2)", x.at(3, 2), 13);
        check.dueFinding(x, "at(3, 3)", () -> x.at(3, 3), 2);
        check.dueFinding(x, "at(3, -1)", () -> x.at(3, -1), 2);
        check.due("asked()", x.asked(), 13);
        x.row(3, 0);
        check.dueFinding(x, "at(3, 0) of none", () -> x.at(3, 0), 2);
    }

    private static void tear(Check check) {
        check.promise(5);
        ShyStrip x = new ShyStrip();
        check.due("tear(6)", x.tear(6), BAD);
        check.due("tear(-1)", x.tear(-1), BAD);
        check.dueFinding(x, "tear(0)", () -> x.tear(0), 1);
        x.row(0, 0);
        x.row(1, 2);
        check.due("tear(0)", x.tear(0), 1);
        check.due("count(8)", x.count(8), 1);
        check.dueFinding(x, "tear(0) again", () -> x.tear(0), 1);
        check.dueFinding(x, "at(0, 0)", () -> x.at(0, 0), 1);
        check.dueAsked(x, "at(1, 1)", x.at(1, 1), 0);
    }

    private static void copy(Check check) {
        check.promise(6);
        ShyStrip x = new ShyStrip();
        Lands.papers(x, 0, 1, 2, 3, 4, 5);
        Lands.papers(x, 1, 6, 7, 8);
        check.due("copy(0, 1, 1, 0, 2)", x.copy(0, 1, 1, 0, 2), 1);
        check.due("ROW 1", Lands.figures(x, 1, 3), 238);
        check.due("ROW 0", Lands.figures(x, 0, 5), 12345);
        check.due("copy(0, 0, 0, 1, 4)", x.copy(0, 0, 0, 1, 4), 1);
        check.due("ROW 0", Lands.figures(x, 0, 5), 11234);
        check.due("copy(0, 2, 0, 0, 3)", x.copy(0, 2, 0, 0, 3), 1);
        check.due("ROW 0", Lands.figures(x, 0, 5), 23434);
        check.due("copy(1, 3, 0, 5, 0)", x.copy(1, 3, 0, 5, 0), 1);
        check.due("copy(0, 0, 0, 0, 5)", x.copy(0, 0, 0, 0, 5), 1);
        check.due("ROW 0", Lands.figures(x, 0, 5), 23434);
    }

    private static void copyRefused(Check check) {
        ShyStrip x = new ShyStrip();
        x.row(0, 5);
        x.row(1, 3);
        check.due("copy(6, 0, 0, 0, -1)", x.copy(6, 0, 0, 0, -1), BAD);
        check.due("copy(0, 0, 6, 0, -1)", x.copy(0, 0, 6, 0, -1), BAD);
        check.due("copy(0, 0, -1, 0, 1)", x.copy(0, 0, -1, 0, 1), BAD);
        check.dueFinding(x, "copy(2, 0, 3, 0, -1)", () -> x.copy(2, 0, 3, 0, -1), 5);
        check.dueFinding(x, "copy(2, 9, 0, 0, 1)", () -> x.copy(2, 9, 0, 0, 1), 1);
        check.dueFinding(x, "copy(0, 9, 2, 0, 1)", () -> x.copy(0, 9, 2, 0, 1), 1);
        check.dueFinding(x, "copy(0, 4, 1, 0, 2)", () -> x.copy(0, 4, 1, 0, 2), 2);
        check.dueFinding(x, "copy(0, 0, 1, 2, 2)", () -> x.copy(0, 0, 1, 2, 2), 2);
        check.dueFinding(x, "copy(0, -1, 1, 0, 0)", () -> x.copy(0, -1, 1, 0, 0), 2);
        check.dueFinding(x, "copy(0, 0, 1, -1, 0)", () -> x.copy(0, 0, 1, -1, 0), 2);
        check.dueFinding(x, "copy(0, 6, 1, 0, 0)", () -> x.copy(0, 6, 1, 0, 0), 2);
        check.dueFinding(x, "copy(0, 0, 1, 4, 0)", () -> x.copy(0, 0, 1, 4, 0), 2);
        check.dueFinding(x, "copy(0, 1, 1, 1, MAX)", () -> x.copy(0, 1, 1, 1, MAX), 2);
        check.dueFinding(x, "copy(0, MAX, 1, 0, MAX)", () -> x.copy(0, MAX, 1, 0, MAX), 2);
        check.dueFinding(x, "copy(0, MIN, 1, MIN, MAX)", () -> x.copy(0, MIN, 1, MIN, MAX), 2);
    }

    private static void mean(Check check) {
        check.promise(7);
        ShyStrip x = new ShyStrip();
        check.due("mean(6)", x.mean(6), BAD);
        check.due("mean(-1)", x.mean(-1), BAD);
        check.dueFinding(x, "mean(0)", () -> x.mean(0), 1);
        x.row(0, 0);
        check.dueFinding(x, "mean(0) of none", () -> x.mean(0), 4);
        Lands.papers(x, 0, 1, 2, 5);
        check.dueAsked(x, "mean(0)", x.mean(0), 2);
        Lands.papers(x, 0, 9, 2);
        check.dueAsked(x, "mean(0) cut", x.mean(0), 5);
        Lands.papers(x, 0, -9, -2);
        check.dueAsked(x, "mean(0) cut, below 0", x.mean(0), -5);
        Lands.papers(x, 0, MAX, MAX, MAX);
        check.dueAsked(x, "mean(0) of the greatest", x.mean(0), MAX);
        Lands.papers(x, 0, MIN, MIN);
        check.dueAsked(x, "mean(0) of the least", x.mean(0), MIN);
        check.due("upper()", x.upper(), 0);
        check.due("lower()", x.lower(), 1);
    }

    private static void text(Check check) {
        check.promise(8);
        ShyStrip x = new ShyStrip();
        check.due("text(0, 0)", x.text(0, 0), 0);
        check.due("text(3, 60)", x.text(3, 60), 60);
        check.due("text(3, 61)", x.text(3, 61), BAD);
        check.due("text(4, 1)", x.text(4, 1), BAD);
        check.due("text(-1, 1)", x.text(-1, 1), BAD);
        check.due("text(4, -1)", x.text(4, -1), BAD);
        check.dueFinding(x, "text(3, -1)", () -> x.text(3, -1), 5);
        check.due("count(9)", x.count(9), 2);
        check.due("put(3, 0, 1)", x.put(3, 0, 1), 1032);
        check.due("put(3, 59, 1)", x.put(3, 59, 1), 1032);
        check.due("text(3, 60) anew", x.text(3, 60), 60);
        check.due("put(3, 0, 1)", x.put(3, 0, 1), 1032);
        check.due("put(3, 59, 1)", x.put(3, 59, 1), 1032);
    }

    private static void put(Check check) {
        check.promise(9);
        ShyStrip x = new ShyStrip();
        check.due("put(4, 0, 0)", x.put(4, 0, 0), BAD);
        check.due("put(-1, 0, 0)", x.put(-1, 0, 0), BAD);
        check.dueFinding(x, "put(0, 0, 0)", () -> x.put(0, 0, 0), 1);
        x.text(0, 2);
        check.dueFinding(x, "put(0, 2, 0)", () -> x.put(0, 2, 0), 2);
        check.dueFinding(x, "put(0, -1, 0)", () -> x.put(0, -1, 0), 2);
        check.due("put(0, 1, 200)", x.put(0, 1, 200), 1032);
        check.due("put(0, 1, -129)", x.put(0, 1, -129), 944);
        check.due("put(0, 1, 127)", x.put(0, 1, 127), 1127);
        check.due("put(0, 1, -128)", x.put(0, 1, -128), 1127);
        check.due("put(0, 1, 366)", x.put(0, 1, 366), 872);
        check.due("put(0, 1, MIN)", x.put(0, 1, MIN), 1110);
        check.due("put(0, 1, MAX)", x.put(0, 1, MAX), 1000);
        check.due("put(0, 1, 0)", x.put(0, 1, 0), 999);
    }
}
