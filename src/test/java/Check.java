import java.util.TreeMap;

/** Compares answers with those that are due, and counts them by the promise that is tested. */
final class Check {
    static final int PROMISES = 43;

    private final TreeMap<Integer, Integer> checks = new TreeMap<>();
    private final TreeMap<String, Integer> sentences = new TreeMap<>();
    private int promise = 0;
    private String sentence = "";
    private int passed = 0;
    private int failed = 0;

    /** What comes from here on tests this promise. */
    void promise(int number) {
        promise = number;
        sentence = "";
    }

    /** What comes from here on tests this sentence of the document. */
    void sentence(int number, String words) {
        promise = number;
        sentence = " '" + words + "'";
        sentences.put(number + sentence, 0);
    }

    void due(String call, long got, long want) {
        checks.merge(promise, 1, Integer::sum);
        sentences.computeIfPresent(promise + sentence, (key, many) -> many + 1);
        if (got == want) {
            passed++;
        } else {
            failed++;
            System.out.println("promise " + promise + sentence + ": " + call + " answered " + got + ", due is " + want);
        }
    }

    /** A refusal by a FINDING: finding() tells it, findings() counts one more. */
    void dueFinding(ShyStrip x, String call, java.util.function.IntSupplier run, int finding) {
        int ahead = x.findings(finding);
        long digest = x.digest();
        int asked = x.asked();
        due(call, run.getAsInt(), ShyStrip.FINDING);
        due(call + ", finding()", x.finding(), finding);
        due(call + ", findings(" + finding + ")", x.findings(finding), ahead + 1);
        due(call + ", digest() stays", x.digest(), digest);
        due(call + ", asked() stays", x.asked(), asked);
    }

    /** What a call tells by asked(), behind the 1 that it answers. */
    void dueAsked(ShyStrip x, String call, int got, int want) {
        due(call, got, 1);
        due(call + ", asked()", x.asked(), want);
    }

    void dueFraction(ShyStrip x, String call, int got, long upper, long lower) {
        due(call, got, 1);
        due(call + ", upper()", x.upper(), upper);
        due(call + ", lower()", x.lower(), lower);
    }

    /** The first check of a sentence is of its words alone. */
    void everySentenceHasOne() {
        for (String words : sentences.keySet()) {
            if (sentences.get(words) < 2) {
                failed++;
                System.out.println("promise " + words + " has no test");
            }
        }
    }

    void everyPromiseHasOne() {
        for (int p = 1; p <= PROMISES; p++) {
            if (!checks.containsKey(p)) {
                failed++;
                System.out.println("promise " + p + " has no test");
            }
        }
    }

    int sentences() {
        return sentences.size();
    }

    int passed() {
        return passed;
    }

    int failed() {
        return failed;
    }
}
