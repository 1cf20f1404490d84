import java.io.IOException;
import java.nio.file.Files;
import java.nio.file.Path;
import java.util.BitSet;
import java.util.TreeMap;
import java.util.regex.Matcher;
import java.util.regex.Pattern;

/** ../shared/DOC.md: which of its words are quoted by a test, and whether a boundary case is left without one. */
final class Document {
    private static final int TERMS = 0;
    private static final Pattern HEADING = Pattern.compile("## (Terms|Promise (\\d+): .*|.*)");
    /** What tells that a sentence names a boundary case. */
    private static final Pattern EDGE = Pattern.compile("\\b(BAD|FULL|STATE|SPENT|FINDING|NOTHING|BEYOND|UNLIKE|NOUGHT"
            + "|SIZE|NONE|cut|none|nobody|missing|below|above|more than|at most|ahead|behind|perhaps|order|last|before"
            + "|first of|anew|no (?:CELLS|PEOPLE|DEEDS|VOTES)|none such|too early|blanks alone|as it can|or more)\\b"
            + "|\\d \\.\\. \\d|\\(if it|\\(if the STRIP|itself");

    private static final Path DOCUMENT = Path.of("../shared/DOC.md");

    private final boolean isHere = Files.exists(DOCUMENT);
    private final TreeMap<Integer, String> parts = new TreeMap<>();
    private final TreeMap<Integer, BitSet> quoted = new TreeMap<>();

    Document() throws IOException {
        if (!isHere) {
            System.out.println("not here: " + DOCUMENT + ", so that the quoted words are not compared");
            return;
        }
        int part = -1;
        for (String line : Files.readAllLines(DOCUMENT)) {
            Matcher m = HEADING.matcher(line);
            if (m.matches()) {
                part = m.group(2) != null ? Integer.parseInt(m.group(2)) : m.group(1).equals("Terms") ? TERMS : -1;
            } else {
                parts.merge(part, line.strip() + " ", String::concat);
            }
            quoted.putIfAbsent(part, new BitSet());
        }
    }

    /** The words stand in a promise, or in the Terms. */
    void quote(Check check, int promise, String words) {
        boolean found = quoteIn(promise, words) | quoteIn(TERMS, words);
        check.due("the document's words", found || !isHere ? 1 : 0, 1);
    }

    private boolean quoteIn(int part, String words) {
        String text = parts.getOrDefault(part, "");
        int from = text.indexOf(words);
        boolean found = from >= 0;
        while (from >= 0) {
            quoted.get(part).set(from, from + words.length());
            from = text.indexOf(words, from + 1);
        }
        return found;
    }

    void everyEdgeIsQuoted(Check check) {
        for (int part = TERMS; part <= Check.PROMISES; part++) {
            String text = parts.getOrDefault(part, "");
            Matcher m = EDGE.matcher(text);
            check.promise(Math.max(1, part));
            while (m.find()) {
                boolean has = quoted.get(part).get(m.start());
                String near = text.substring(Math.max(0, m.start() - 30), Math.min(text.length(), m.end() + 30));
                check.due("a test for '.." + near + "..'", has ? 1 : 0, 1);
            }
        }
    }
}
