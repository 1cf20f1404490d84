import java.io.IOException;
import java.lang.reflect.Method;
import java.lang.reflect.Modifier;
import java.nio.file.Files;
import java.nio.file.Path;
import java.util.ArrayList;
import java.util.List;
import java.util.regex.Matcher;
import java.util.regex.Pattern;

/** README.md: what its example says is what the class answers, and each call of the face is told of. */
final class ReadmeTests {
    private static final Path README = Path.of("README.md");
    private static final Pattern LAND = Pattern.compile("String land = \"(.*)\";");
    private static final Pattern CALL = Pattern.compile("x\\.(\\w+)\\((.*)\\); +// (-?\\d+)(:.*)?");
    private static final int CALLS_OF_EXAMPLE = 19;

    private ReadmeTests() {
    }

    static void run(Check check) throws IOException {
        List<String> lines = Files.readAllLines(README);
        check.promise(11);
        example(check, lines);
        check.promise(1);
        table(check, String.join("\n", lines));
    }

    /** The loop that puts the land's bytes is run where text() has been called. */
    private static void example(Check check, List<String> lines) {
        ShyStrip x = new ShyStrip();
        String land = "";
        int calls = 0;
        for (String line : lines) {
            Matcher told = LAND.matcher(line);
            Matcher call = CALL.matcher(line);
            if (told.matches()) {
                land = told.group(1);
            } else if (call.matches()) {
                calls++;
                String arguments = call.group(2).replace("land.length()", "" + land.length());
                check.due("README: " + line, answer(x, call.group(1), arguments), Long.parseLong(call.group(3)));
            }
            if (line.startsWith("x.text(0,")) {
                Lands.write(x, 0, land);
            }
        }
        check.due("README: calls of the example", calls, CALLS_OF_EXAMPLE);
    }

    private static long answer(ShyStrip x, String name, String arguments) {
        List<Object> numbers = new ArrayList<>();
        for (String item : arguments.split(", ?")) {
            if (!item.isEmpty()) {
                numbers.add(Integer.valueOf(item));
            }
        }
        for (Method m : ShyStrip.class.getDeclaredMethods()) {
            if (m.getName().equals(name) && Modifier.isPublic(m.getModifiers())) {
                try {
                    return ((Number) m.invoke(x, numbers.toArray())).longValue();
                } catch (ReflectiveOperationException e) {
                    throw new IllegalStateException("README: " + name + "(" + arguments + ")", e);
                }
            }
        }
        throw new IllegalStateException("README: there is no " + name + "()");
    }

    private static void table(Check check, String readme) {
        for (Method m : ShyStrip.class.getDeclaredMethods()) {
            if (Modifier.isPublic(m.getModifiers())) {
                boolean told = Pattern.compile("`" + m.getName() + "\\([a-z, ]*\\)`").matcher(readme).find();
                check.due("README tells of " + m.getName() + "()", told ? 1 : 0, 1);
            }
        }
        for (String constant : List.of("BAD", "FULL", "FINDING", "STATE", "SPENT", "NONE")) {
            check.due("README tells of " + constant, readme.contains("`" + constant + "` -") ? 1 : 0, 1);
        }
    }
}
