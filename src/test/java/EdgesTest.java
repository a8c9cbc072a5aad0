import java.io.IOException;
import java.nio.file.Files;
import java.nio.file.Path;
import java.util.Arrays;
import java.util.HashSet;
import java.util.Map;
import java.util.Set;
import java.util.TreeMap;

/** src/test/edges.txt: the sentences of the document that name a boundary case, and their tests. */
public final class EdgesTest {
    private static final Path DOCUMENT = Path.of("../shared/DOC.md"), TABLE = Path.of("src/test/edges.txt");
    private static final int PROMISES = 15;

    public static void main(String[] args) throws IOException {
        Bench b = new Bench("edges.txt");
        Map<String, String> parts = partsOf(Files.readString(DOCUMENT));
        Set<String> named = new HashSet<>();
        Set<String> partsNamed = new HashSet<>();
        for (String line : Files.readAllLines(TABLE)) {
            if (line.isBlank() || line.startsWith("#")) {
                continue;
            }
            String[] row = Arrays.stream(line.split("\\|")).map(String::trim).toArray(String[]::new);
            b.due("three columns: " + line, row.length == 3);
            b.due("in the document: " + line, parts.getOrDefault(row[0], "").contains(row[1]));
            partsNamed.add(row[0]);
            for (String test : row[2].split(" ")) {
                b.due(test + " is named once", named.add(test));
                b.due(test + " is there and runs", runs(test));
            }
        }
        for (String part : parts.keySet()) {
            b.due(part + " has a row", partsNamed.contains(part));
        }
        Bench.finish();
    }

    /** What it is, the answers, the three parts of the Terms, and the promises, each on one line. */
    private static Map<String, String> partsOf(String document) {
        Map<String, String> parts = new TreeMap<>();
        parts.put("What it is", between(document, "## What it is", "## The public face"));
        parts.put("Answers", between(document, "## Terms", "==== 1 "));
        parts.put("Terms 1", between(document, "==== 1 ", "==== 2 "));
        parts.put("Terms 2", between(document, "==== 2 ", "==== 3 "));
        parts.put("Terms 3", between(document, "==== 3 ", "## Promise 1:"));
        for (int i = 1; i <= PROMISES; i++) {
            String end = i == PROMISES ? "## Not promised" : "## Promise " + (i + 1) + ":";
            parts.put("Promise " + i, between(document, "## Promise " + i + ":", end));
        }
        return parts;
    }

    private static String between(String document, String start, String end) {
        int from = document.indexOf(start);
        int to = document.indexOf(end);
        return from < 0 || to < from ? "" : document.substring(from, to).replaceAll("\\s+", " ");
    }

    /** It is told as a method, and called besides. */
    private static boolean runs(String test) throws IOException {
        String[] name = test.split("\\.");
        String source = Files.readString(Path.of("src/test/java", name[0] + ".java"));
        String told = "private static void " + name[1] + "(";
        return source.contains(told) && source.replace(told, "").matches("(?s).*\\b" + name[1] + "\\(.*");
    }
}
