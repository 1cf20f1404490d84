import java.io.IOException;
import java.lang.reflect.Constructor;
import java.lang.reflect.Field;
import java.lang.reflect.Method;
import java.lang.reflect.Modifier;
import java.nio.file.Files;
import java.nio.file.Path;
import java.util.ArrayList;
import java.util.List;
import java.util.TreeSet;
import java.util.regex.Matcher;
import java.util.regex.Pattern;

/** The face of the document, and those rules of LANGUAGE.md that can be seen from outside or in the text. */
final class RuleTests {
    private static final String FACE = """
        int row(int, int)
        int lay(int, int, int)
        int at(int, int)
        int tear(int)
        int copy(int, int, int, int, int)
        int mean(int)
        int text(int, int)
        int put(int, int, int)
        int fault(int)
        int land(int)
        int one(int, int)
        int mark(int, int)
        int coast(int)
        int year()
        int step(int, int)
        int walk(int, int)
        int undo(int)
        int keep(int)
        int on(int)
        int belong()
        int laws()
        int seats(int, int)
        int fewest()
        int then(int)
        int when(int, int)
        int round()
        int duel(int)
        int peace(int, int)
        int way(int, int)
        int far(int)
        int kinds(int, int)
        int spots(int, int)
        int odds(int, int)
        int mid(int)
        int lots(int, int)
        int asked()
        long upper()
        long lower()
        int count(int)
        int finding()
        int findings(int)
        long digest()
        """;
    private static final String FORBIDDEN =
            "\\b(throw|try|catch|synchronized|assert|import|package|float|double|volatile|native|\\w*Exact)\\b|->|::|\"|@";

    private RuleTests() {
    }

    static void run(Check check) throws IOException {
        check.promise(1);
        face(check);
        constants(check);
        classesInside(check);
        text(check);
    }

    private static void face(Check check) {
        TreeSet<String> due = new TreeSet<>(FACE.strip().lines().map(String::strip).toList());
        TreeSet<String> open = new TreeSet<>();
        for (Method m : ShyStrip.class.getDeclaredMethods()) {
            if (Modifier.isPrivate(m.getModifiers())) {
                check.due("private " + m.getName() + " named as a public one",
                        due.stream().anyMatch(d -> d.contains(" " + m.getName() + "(")) ? 1 : 0, 0);
            } else {
                check.due("public " + m.getName(), Modifier.isPublic(m.getModifiers())
                        && !Modifier.isStatic(m.getModifiers()) ? 1 : 0, 1);
                open.add(signature(m));
            }
        }
        check.due("the methods are those of the face: " + open, open.equals(due) ? 1 : 0, 1);
        Constructor<?>[] made = ShyStrip.class.getDeclaredConstructors();
        check.due("constructors", made.length, 1);
        check.due("public ShyStrip()", Modifier.isPublic(made[0].getModifiers())
                && made[0].getParameterCount() == 0 ? 1 : 0, 1);
        check.due("public final class", ShyStrip.class.getModifiers() & (Modifier.PUBLIC | Modifier.FINAL),
                Modifier.PUBLIC | Modifier.FINAL);
    }

    private static String signature(Method m) {
        List<String> types = new ArrayList<>();
        for (Class<?> type : m.getParameterTypes()) {
            types.add(type.getName());
        }
        return m.getReturnType().getName() + " " + m.getName() + "(" + String.join(", ", types) + ")";
    }

    private static void constants(Check check) {
        check.due("BAD", ShyStrip.BAD, -1);
        check.due("FULL", ShyStrip.FULL, -2);
        check.due("FINDING", ShyStrip.FINDING, -3);
        check.due("STATE", ShyStrip.STATE, -4);
        check.due("SPENT", ShyStrip.SPENT, -6);
        check.due("NONE", ShyStrip.NONE, -9);
        TreeSet<String> open = new TreeSet<>();
        for (Field f : ShyStrip.class.getDeclaredFields()) {
            if (!Modifier.isPrivate(f.getModifiers())) {
                open.add(Modifier.toString(f.getModifiers()) + " " + f.getName());
            }
            check.due(f.getName() + " is final, if it is static", Modifier.isStatic(f.getModifiers())
                    && !Modifier.isFinal(f.getModifiers()) ? 1 : 0, 0);
        }
        TreeSet<String> due = new TreeSet<>();
        for (String name : List.of("BAD", "FULL", "FINDING", "STATE", "SPENT", "NONE")) {
            due.add("public static final " + name);
        }
        check.due("the constants are those of the face: " + open, open.equals(due) ? 1 : 0, 1);
    }

    private static void classesInside(Check check) {
        Class<?>[] inside = ShyStrip.class.getDeclaredClasses();
        check.due("some twelve classes at most", inside.length <= 11 ? 1 : 0, 1);
        for (Class<?> c : inside) {
            check.due(c.getName() + " is static", Modifier.isStatic(c.getModifiers()) ? 1 : 0, 1);
            check.due(c.getName() + " is not public", Modifier.isPublic(c.getModifiers()) ? 1 : 0, 0);
            int fields = 0;
            for (Field f : c.getDeclaredFields()) {
                fields += Modifier.isStatic(f.getModifiers()) ? 0 : 1;
            }
            check.due(c.getName() + " has some twenty fields at most", fields <= 20 ? 1 : 0, 1);
            for (Method m : c.getDeclaredMethods()) {
                check.due(m + " takes seven at most", m.getParameterCount() <= 7 ? 1 : 0, 1);
            }
        }
    }

    private static void text(Check check) throws IOException {
        String[] lines = Files.readString(Path.of("src/main/java/ShyStrip.java")).split("\n", -1);
        Pattern forbidden = Pattern.compile(FORBIDDEN);
        boolean behindConstructor = false;
        boolean inClass = false;
        for (int i = 0; i < lines.length; i++) {
            String code = lines[i].replaceAll("//.*|^\\s*/?\\*.*|/\\*\\*.*\\*/", "");
            Matcher m = forbidden.matcher(code);
            check.due("line " + (i + 1) + " has what LANGUAGE.md leaves out: " + lines[i], m.find() ? 1 : 0, 0);
            behindConstructor |= code.contains("public int row(");
            inClass |= code.contains(" static final class ");
            boolean field = inClass && code.contains(" final ") && code.startsWith("        final ");
            check.due("line " + (i + 1) + " makes an object in a call: " + lines[i],
                    behindConstructor && code.matches(".*\\bnew\\b.*") && !field ? 1 : 0, 0);
            check.due("line " + (i + 1) + " holds signs above 127",
                    lines[i].chars().allMatch(c -> c < 128) ? 1 : 0, 1);
        }
    }
}
