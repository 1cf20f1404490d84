import java.io.IOException;
import java.nio.file.Files;
import java.nio.file.Path;
import java.util.List;

/** src/test/edges.txt: a test for each sentence of the document that names a boundary case. */
final class EdgeTests {
    private static final Path EDGES = Path.of("src/test/edges.txt");

    private EdgeTests() {
    }

    static void run(Check check) throws IOException {
        List<String> lines = Files.readAllLines(EDGES);
        Document document = new Document();
        EdgeRun run = new EdgeRun(check);
        int promise = 0;
        for (int i = 0; i < lines.size(); i++) {
            String line = lines.get(i);
            if (line.startsWith("## ")) {
                promise = Integer.parseInt(line.split(" ")[1]);
            } else if (line.startsWith("> ")) {
                check.sentence(promise, line.substring(2));
                document.quote(check, promise, line.substring(2));
                run.begin();
            } else if (!line.isEmpty() && !line.startsWith("-- ")) {
                run.line(i + 1, line);
            }
        }
        document.everyEdgeIsQuoted(check);
    }
}
