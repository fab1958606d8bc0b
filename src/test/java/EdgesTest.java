import java.io.IOException;
import java.nio.file.DirectoryStream;
import java.nio.file.Files;
import java.nio.file.Path;
import java.util.ArrayList;
import java.util.List;
import java.util.Map;
import java.util.TreeMap;
import java.util.TreeSet;
import java.util.regex.Pattern;

/**
 * The runs of src/test/edges: each quotes a sentence of the document that names a boundary case. What is quoted must
 * stand in the document, and each row of the document on a range, on an answer or on an exception must be quoted.
 */
public final class EdgesTest {
    private static final Path DOCUMENT = Path.of("../shared/DOC.md");
    private static final Path EDGES = Path.of("src/test/edges");
    private static final Pattern RANGE_ROW = Pattern.compile("- `\\w+`: .*[0-9'].*");

    private static final Runs RUNS = new Runs("EdgesTest");

    private final Map<String, String> sections = new TreeMap<>();
    private final Map<String, TreeSet<String>> quoted = new TreeMap<>();

    private String heading = "";
    private String sentence = "";
    private final StringBuilder run = new StringBuilder();
    private boolean isTested = true;

    public static void main(String[] args) throws IOException {
        EdgesTest test = new EdgesTest();
        test.readDocument();
        List<Path> files = new ArrayList<>();
        try (DirectoryStream<Path> found = Files.newDirectoryStream(EDGES, "*.txt")) {
            found.forEach(files::add);
        }
        files.sort(null);
        for (Path file : files) {
            test.runAll(Files.readAllLines(file));
        }
        test.checkRows();
        RUNS.end();
    }

    private void readDocument() throws IOException {
        String section = "";
        for (String line : Files.readAllLines(DOCUMENT)) {
            if (line.startsWith("## ")) {
                section = line.substring(3).trim();
                sections.put(section, "");
                quoted.put(section, new TreeSet<>());
            } else if (!section.isEmpty()) {
                sections.merge(section, line, (text, next) -> text + "\n" + next);
            }
        }
    }

    private void runAll(List<String> lines) {
        for (String line : lines) {
            if (line.startsWith("== ")) {
                endSentence();
                heading = line.substring(3);
            } else if (line.startsWith("> ")) {
                endSentence();
                begin(line.substring(2));
            } else if (line.isBlank()) {
                endRun();
            } else if (!line.startsWith("#")) {
                run.append(line).append("\n");
            }
        }
        endSentence();
    }

    private void begin(String quotation) {
        sentence = quotation;
        isTested = false;
        if (!plain(sections.getOrDefault(heading, "")).contains(plain(quotation))) {
            RUNS.wrong(heading + ": the document does not say: " + quotation);
        } else {
            quoted.get(heading).add(plain(quotation));
        }
    }

    private void endRun() {
        if (run.length() > 0) {
            RUNS.run(heading + ", \"" + sentence + "\"", run.toString());
            run.setLength(0);
            isTested = true;
        }
    }

    private void endSentence() {
        endRun();
        if (!isTested) {
            RUNS.wrong(heading + ": no run for: " + sentence);
        }
        isTested = true;
    }

    private static String plain(String text) {
        return text.replaceAll("\\s+", " ").trim();
    }

    /** Every row of a promise that can name a boundary case is quoted. */
    private void checkRows() {
        for (Map.Entry<String, String> section : sections.entrySet()) {
            if (section.getKey().startsWith("Promise ")) {
                for (String row : section.getValue().split("\n")) {
                    if (isDue(row) && !quoted.get(section.getKey()).contains(plain(row))) {
                        RUNS.wrong(section.getKey() + ": no run for: " + row);
                    }
                }
            }
        }
    }

    private static boolean isDue(String row) {
        return row.startsWith("Throws ") || row.startsWith("Returns ") || RANGE_ROW.matcher(row).matches();
    }
}
