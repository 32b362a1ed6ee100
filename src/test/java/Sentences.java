import java.io.IOException;
import java.nio.file.Files;
import java.nio.file.Path;
import java.util.HashSet;
import java.util.LinkedHashMap;
import java.util.Map;
import java.util.Set;

/**
 * The sentences of the document that name a boundary case, each with a test of its own. The words
 * must stand in the document, so that no test outlives the sentence that it was made for.
 */
final class Sentences {
    private static final String HEADING = "## ";
    private static final int PROMISES = 30;

    final Checks checks = new Checks();
    private final Map<String, String> sections = new LinkedHashMap<>();
    private final Set<String> tested = new HashSet<>();
    private final Set<String> opened = new HashSet<>();
    private String section = "";
    private String label = "";

    Sentences(Path document) throws IOException {
        String heading = "";
        StringBuilder text = new StringBuilder();
        for (String line : Files.readAllLines(document)) {
            if (line.startsWith(HEADING)) {
                sections.put(heading, text.toString());
                heading = line.substring(HEADING.length()).replaceAll(":.*", "");
                text.setLength(0);
            } else {
                text.append(line.strip()).append(' ');
            }
        }
        sections.put(heading, text.toString());
    }

    void open(String heading) {
        section = heading;
        label = heading;
    }

    void test(String words, Runnable test) {
        label = section + ", '" + words + "'";
        opened.add(section);
        checks.due(label + " stands in the document", sections.getOrDefault(section, "").contains(words), true);
        checks.due(label + " has one test", tested.add(section + words), true);
        int before = checks.count();
        try {
            test.run();
        } catch (RuntimeException thrown) {
            checks.failed(label + ": threw " + thrown + " at " + thrown.getStackTrace()[0]);
        }
        checks.due(label + " was asked", checks.count() > before, true);
    }

    void due(String what, int got, int want) {
        checks.due(label + ": " + what, got, want);
    }

    void refused(String what, Tables.Setup setup, int want, Twin.Call wrong) {
        Twin.refused(checks, label + ": " + what, setup, want, wrong);
    }

    void end() {
        for (int i = 1; i <= PROMISES; i++) {
            checks.due("Promise " + i + " has tests", opened.contains("Promise " + i), true);
        }
        System.out.println(tested.size() + " sentences");
        checks.end();
    }
}
