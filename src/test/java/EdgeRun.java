import java.lang.reflect.Method;
import java.util.ArrayList;
import java.util.HashMap;
import java.util.List;
import java.util.Map;
import java.util.Set;
import java.util.regex.Matcher;
import java.util.regex.Pattern;

/**
 * Runs lines of src/test/edges.txt. Behind each call it looks at all that can be told: what is refused
 * changes nothing but finding(), findings(); what looks on aside changes no digest(); and only what is
 * told to tell by asked(), upper(), lower() does.
 */
final class EdgeRun {
    private static final int CALLS_OF_ONE_OBJECT = 512;
    private static final Pattern CALL = Pattern.compile("(\\w+)\\((.*?)\\)");
    private static final Pattern ANSWERED = Pattern.compile(
            "(\\w+)\\((.*?)\\) (.+?)(?: asked (\\S+))?(?: by (\\d+)/(\\d+))?");
    private static final Pattern RANGE = Pattern.compile("(\\d+)\\.\\.(\\d+)");
    private static final Map<String, Integer> ANSWERS =
            Map.of("BAD", -1, "FULL", -2, "STATE", -4, "NONE", -9);
    private static final List<String> FINDINGS = List.of("NOTHING", "BEYOND", "UNLIKE", "NOUGHT", "SIZE");
    private static final Set<String> ASIDE = Set.of("at", "mean", "fault", "one", "mark", "coast", "belong",
            "laws", "fewest", "then", "when", "round", "duel", "way", "far", "kinds", "spots", "odds", "mid",
            "asked", "upper", "lower", "count", "finding", "findings", "digest");
    private static final String[] TOLD = {"digest()", "asked()", "upper()", "lower()", "finding()",
        "findings(1)", "findings(2)", "findings(3)", "findings(4)", "findings(5)"};
    private static final int ASKED = 1, UPPER = 2, LOWER = 3, FINDING = 4;

    private final Check check;
    private final Map<String, Method> methods = new HashMap<>();
    private final Map<String, Long> remembered = new HashMap<>();
    private ShyStrip x;
    private long[] told;
    private int calls;

    EdgeRun(Check check) {
        this.check = check;
        for (Method m : ShyStrip.class.getMethods()) {
            methods.put(m.getName(), m);
        }
    }

    void begin() {
        x = new ShyStrip();
        calls = 0;
        told = told();
    }

    void line(int number, String line) {
        String what = line.split(" ", 2)[0];
        String rest = line.contains(" ") ? line.substring(line.indexOf(' ') + 1) : "";
        String place = "line " + number + ", " + line;
        switch (what) {
            case "new" -> anew(place, rest);
            case "land" -> land(place, rest);
            case "papers" -> papers(rest);
            case "places" -> places(place, rest);
            case "repeat" -> repeat(rest);
            case "remember" -> remembered.put(rest, call("digest"));
            case "as" -> check.due(place + ": digest()", call("digest"), remembered.get(rest));
            case "tells" -> tells(place, rest);
            case "fault" -> fault(place, rest);
            default -> answered(place, line);
        }
        check.due(place + ": a call that is promised", calls <= CALLS_OF_ONE_OBJECT ? 1 : 0, 1);
    }

    private long call(String name, int... arguments) {
        calls++;
        Object[] boxed = new Object[arguments.length];
        for (int i = 0; i < boxed.length; i++) {
            boxed[i] = arguments[i];
        }
        try {
            return ((Number) methods.get(name).invoke(x, boxed)).longValue();
        } catch (ReflectiveOperationException | RuntimeException e) {
            throw new IllegalStateException(name + "() can't be called, or has thrown", e);
        }
    }

    private long[] told() {
        long[] all = new long[TOLD.length];
        for (int t = 0; t < FINDING; t++) {
            all[t] = call(TOLD[t].substring(0, TOLD[t].length() - 2));
        }
        all[FINDING] = call("finding");
        for (int f = 1; f <= FINDINGS.size(); f++) {
            all[FINDING + f] = call("findings", f);
        }
        return all;
    }

    /** Answers may be told one for each of a range in the call, or one for all. */
    private void answered(String place, String line) {
        Matcher m = ANSWERED.matcher(line);
        if (!m.matches()) {
            throw new IllegalArgumentException("no test: " + place);
        }
        String[] dues = m.group(3).split(" ");
        Matcher range = RANGE.matcher(m.group(2));
        if (!range.find()) {
            answeredOne(place, m, m.group(2), m.group(3));
            return;
        }
        int from = Integer.parseInt(range.group(1));
        int to = Integer.parseInt(range.group(2));
        if (dues.length != 1 && dues.length != to - from + 1) {
            throw new IllegalArgumentException("answers are missing: " + place);
        }
        for (int v = from; v <= to; v++) {
            String due = dues.length == 1 ? dues[0] : dues[v - from];
            answeredOne(place + ", by " + v, m, range.replaceFirst("" + v), due);
        }
    }

    /** All that can be told is looked at once behind each line, as calls are counted. */
    private void answeredOne(String place, Matcher m, String arguments, String due) {
        String name = m.group(1);
        int finding = FINDINGS.indexOf(due) + 1;
        long answer = finding > 0 ? ShyStrip.FINDING : ANSWERS.containsKey(due) ? ANSWERS.get(due) : number(due);
        long got = call(name, numbers(arguments));
        long[] now = told();
        long[] want = told.clone();
        boolean refused = finding > 0 || ANSWERS.containsKey(due) && !due.equals("NONE");
        want[0] = refused || ASIDE.contains(name) ? want[0] : now[0];
        want[ASKED] = m.group(4) == null ? want[ASKED] : number(m.group(4));
        want[UPPER] = m.group(5) == null ? want[UPPER] : number(m.group(5));
        want[LOWER] = m.group(6) == null ? want[LOWER] : number(m.group(6));
        if (finding > 0) {
            want[FINDING] = finding;
            want[FINDING + finding]++;
        }
        check.due(place, got, answer);
        for (int t = 0; t < now.length; t++) {
            check.due(place + ": " + TOLD[t] + " then", now[t], want[t]);
        }
        told = now;
    }

    private void anew(String place, String text) {
        begin();
        if (!text.isEmpty()) {
            land(place, text);
        }
    }

    private void write(int t, String text) {
        call("text", t, text.length());
        for (int i = 0; i < text.length(); i++) {
            call("put", t, i, text.charAt(i));
        }
    }

    private void land(String place, String text) {
        write(3, text);
        check.due(place, call("land", 3), (text.length() - 6) / 5);
        told = told();
    }

    /** A text between bars, on an object of its own; a text with a FAULT is no LAND's. */
    private void fault(String place, String rest) {
        int end = rest.lastIndexOf('|');
        String due = rest.substring(end + 2);
        begin();
        write(2, rest.substring(1, end));
        told = told();
        answered(place, "fault(2) " + due);
        check.due(place + ": land(2) is refused", call("land", 2) == ShyStrip.STATE ? 1 : 0, due.equals("NONE") ? 0 : 1);
        told = told();
    }

    private void papers(String rest) {
        int r = rest.charAt(0) - '0';
        int[] places = numbers(rest.substring(2));
        call("row", r, places.length);
        for (int i = 0; i < places.length; i++) {
            call("lay", r, i, places[i]);
        }
        told = told();
    }

    private void places(String place, String rest) {
        int r = rest.charAt(0) - '0';
        int[] due = numbers(rest.substring(2));
        for (int i = 0; i < due.length; i++) {
            check.due(place + ": at(" + r + ", " + i + ")", call("at", r, i), 1);
            check.due(place + ": place " + i, call("asked"), due[i]);
        }
        check.due(place + ": a place more", call("at", r, due.length), ShyStrip.FINDING);
        check.due(place + ": a place more is BEYOND", call("finding"), 2);
        told = told();
    }

    private void repeat(String rest) {
        int times = Integer.parseInt(rest.substring(0, rest.indexOf(' ')));
        for (int t = 0; t < times; t++) {
            Matcher m = CALL.matcher(rest);
            while (m.find()) {
                call(m.group(1), numbers(m.group(2)));
            }
        }
        told = told();
    }

    private void tells(String place, String rest) {
        long h = 17;
        for (int v : numbers(rest)) {
            h = 31 * h + v;
        }
        check.due(place + ": digest()", call("digest"), h);
    }

    /** Numbers with commas or blanks between; 3*7 are three 7s, MIN and MAX the least and the greatest int. */
    private static int[] numbers(String text) {
        List<Integer> numbers = new ArrayList<>();
        for (String item : text.strip().split("[, ]+")) {
            int times = item.indexOf('*') < 0 ? 1 : number(item.substring(0, item.indexOf('*')));
            for (int t = 0; t < times && !item.isEmpty(); t++) {
                numbers.add(number(item.substring(item.indexOf('*') + 1)));
            }
        }
        return numbers.stream().mapToInt(Integer::intValue).toArray();
    }

    private static int number(String item) {
        return switch (item) {
            case "MIN" -> Integer.MIN_VALUE;
            case "MAX" -> Integer.MAX_VALUE;
            default -> Integer.parseInt(item);
        };
    }
}
