/** Promises 37 to 43: what is told. */
final class ToldTests {
    private static final int BAD = ShyStrip.BAD;

    private ToldTests() {
    }

    static void run(Check check) {
        asked(check);
        upperLower(check);
        count(check);
        finding(check);
        findings(check);
        digest(check);
    }

    private static void asked(Check check) {
        check.promise(37);
        ShyStrip x = new ShyStrip();
        check.due("asked() before", x.asked(), 0);
        Lands.papers(x, 0, 7, 8, 12);
        x.at(0, 0);
        check.due("asked() behind at()", x.asked(), 7);
        x.lay(0, 1, 3);
        check.due("asked() behind lay()", x.asked(), 8);
        x.mean(0);
        check.due("asked() behind mean()", x.asked(), 7);
        x.lay(0, 9, 3);
        x.at(6, 0);
        x.mean(1);
        x.one(0, 0);
        x.laws();
        x.fewest();
        x.then(0);
        x.round();
        x.far(0);
        check.due("asked() behind what was refused", x.asked(), 7);
        Lands.write(x, 0, "n92500 p346 p447 l120");
        x.land(0);
        x.digest();
        x.row(1, 3);
        x.copy(0, 0, 1, 0, 3);
        x.seats(3, 1);
        x.peace(3, 1);
        x.belong();
        x.coast(3);
        x.mark(2, 2);
        x.when(1, 6);
        x.duel(2);
        x.way(0, 8);
        x.odds(3, 3);
        x.mid(3);
        x.count(1);
        x.year();
        x.undo(0);
        x.keep(0);
        x.on(0);
        check.due("asked() behind what does not tell by it", x.asked(), 7);
        x.laws();
        check.due("asked() behind laws()", x.asked(), 6);
        x.fewest();
        check.due("asked() behind fewest()", x.asked(), 3);
        x.one(2, 3);
        check.due("asked() behind one()", x.asked(), 1);
        x.then(0);
        check.due("asked() behind then()", x.asked(), 7);
        x.far(0);
        check.due("asked() behind far()", x.asked(), 5);
        x.round();
        check.due("asked() behind round()", x.asked(), 1);
    }

    private static void upperLower(Check check) {
        check.promise(38);
        ShyStrip x = new ShyStrip();
        check.due("upper() before", x.upper(), 0);
        x.odds(0, 0);
        x.mid(0);
        check.due("upper() behind what was refused", x.upper(), 0);
        Lands.write(x, 0, "n92500 p340");
        x.land(0);
        x.odds(1, 3);
        check.due("upper() of a chance", x.upper(), 3);
        x.mid(5);
        check.due("upper() of a mean", x.upper(), 7);
        x.odds(5, 13);
        x.land(0);
        x.year();
        check.due("upper() stays", x.upper(), 7);
        check.promise(39);
        check.due("lower() before", new ShyStrip().lower(), 1);
        check.due("lower() of a mean", x.lower(), 3);
        x.odds(1, 3);
        check.due("lower() of a chance", x.lower(), 4);
        x.odds(9, 3);
        check.due("lower() of 0", x.lower(), 1);
        x.mid(13);
        check.due("lower() stays", x.lower(), 1);
    }

    private static void count(Check check) {
        check.promise(40);
        ShyStrip x = Lands.of("n92500 l310 f110 p240 o640");
        x.row(4, 0);
        x.row(5, 9);
        x.row(5, 9);
        x.text(1, 0);
        x.text(2, 1);
        x.year();
        x.walk(0, 4);
        x.year();
        x.step(0, -1);
        x.keep(2);
        int[] due = {4, 9, 2, 4, x.coast(0), x.coast(1), x.belong(), 2, 2, 3, 1};
        for (int what = 0; what <= 10; what++) {
            check.due("count(" + what + ")", x.count(what), due[what]);
        }
        check.due("count(11)", x.count(11), BAD);
        check.due("count(-1)", x.count(-1), BAD);
        check.due("count(4)", x.count(4), 1);
        check.due("count(5)", x.count(5), 3);
        check.due("count(6)", x.count(6), 0b0100);
        x.undo(2);
        check.due("count(2) undone", x.count(2), 1);
    }

    private static void finding(Check check) {
        check.promise(41);
        ShyStrip x = new ShyStrip();
        check.due("finding() before", x.finding(), 0);
        x.tear(0);
        check.due("finding() NOTHING", x.finding(), 1);
        x.row(0, 0);
        check.due("finding() stays", x.finding(), 1);
        x.at(0, 0);
        check.due("finding() BEYOND", x.finding(), 2);
        Lands.write(x, 0, "n31200 p010");
        x.land(0);
        x.mark(0, 1);
        check.due("finding() UNLIKE", x.finding(), 3);
        x.mean(0);
        check.due("finding() NOUGHT", x.finding(), 4);
        x.row(0, -1);
        check.due("finding() SIZE", x.finding(), 5);
        x.row(0, 41);
        x.step(0, 0);
        x.walk(0, 2);
        check.due("finding() stays by other refusals", x.finding(), 5);
    }

    private static void findings(Check check) {
        check.promise(42);
        ShyStrip x = new ShyStrip();
        check.due("findings(0)", x.findings(0), BAD);
        check.due("findings(6)", x.findings(6), BAD);
        check.due("findings(-1)", x.findings(-1), BAD);
        for (int f = 1; f <= 5; f++) {
            check.due("findings(" + f + ") before", x.findings(f), 0);
        }
        x.tear(0);
        x.on(0);
        x.fault(0);
        x.row(0, -1);
        x.text(0, -1);
        x.row(0, 0);
        x.lay(0, 0, 0);
        x.mean(0);
        x.year();
        x.row(7, 0);
        int[] due = {0, 3, 1, 0, 1, 2};
        for (int f = 1; f <= 5; f++) {
            check.due("findings(" + f + ")", x.findings(f), due[f]);
        }
    }

    private static long onBy(long h, int... values) {
        long next = h;
        for (int v : values) {
            next = next * 31 + v;
        }
        return next;
    }

    private static void digest(Check check) {
        check.promise(43);
        ShyStrip x = new ShyStrip();
        long h = onBy(17, 0, 0, 0, 0, 0, 0, 0, 0, 0, 0, 0);
        h = onBy(h, -1, -1, -1, -1, -1, -1, -1, -1, -1, -1, -1, -1, -1);
        check.due("digest() of a new object", x.digest(), h);
        Lands.write(x, 3, "n31256 p013 l194");
        x.land(3);
        x.text(3, 0);
        x.put(3, 0, -5);
        x.text(1, 2);
        x.put(1, 0, -5);
        x.walk(0, 1);
        x.keep(1);
        x.year();
        Lands.papers(x, 2, Integer.MIN_VALUE, 4);
        x.row(4, 0);
        x.at(2, 1);
        h = onBy(17, 2, 3, 1, 2, 0, 3, 3, 1, 2, 2, 1);
        h = onBy(h, 1 + 4, 0, 0);
        h = onBy(h, 0, 1, 0, 1, 3, 1);
        h = onBy(h, 2, 1, 1, 4, 4, 1);
        h = onBy(h, -1, 1, -1);
        h = onBy(h, -1, -1, 2, Integer.MIN_VALUE, 4, -1, 0, -1);
        h = onBy(h, -1, 2, -5, 32, -1, 0);
        check.due("digest()", x.digest(), h);
        check.due("asked() stays", x.asked(), 4);
        check.due("digest() again", x.digest(), h);
    }
}
