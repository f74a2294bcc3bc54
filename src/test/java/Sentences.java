import java.io.IOException;
import java.nio.file.Files;
import java.nio.file.Path;
import java.util.ArrayList;
import java.util.LinkedHashMap;
import java.util.List;
import java.util.Map;
import java.util.regex.Matcher;
import java.util.regex.Pattern;

/**
 * The sentences of the document, and which of them a test has told. A sentence that no test tells,
 * one that is told without a check, and one that does not stand in the document are faults.
 */
final class Sentences {
    private static final Pattern HEADING = Pattern.compile("#{2,3} (?:Promise ([0-9]+): .*|(.*))");
    private static final List<String> NOT_TESTED = List.of("What it is", "The public face", "Not promised");
    private static final String SIGNATURE = "^`(?:int \\w+|ThinnedPots)\\(.*?\\)`: ";

    private final Checks checks;
    private final Map<String, List<String>> lines = new LinkedHashMap<>();
    private final Map<String, List<String>> told = new LinkedHashMap<>();
    private String label = "";
    private int checkedBefore = 0;

    Sentences(Path document, Checks checks) throws IOException {
        this.checks = checks;
        String section = "";
        for (String line : Files.readAllLines(document)) {
            Matcher heading = HEADING.matcher(line);
            if (heading.matches()) {
                section = heading.group(1) != null ? heading.group(1) : heading.group(2);
                lines.put(section, new ArrayList<>());
                told.put(section, new ArrayList<>());
            } else if (lines.containsKey(section) && !line.isBlank()) {
                lines.get(section).add(line.strip());
            }
        }
    }

    /** Begins the test of a sentence; the section is the number of a promise, or a title of the terms. */
    void tell(String section, String words) {
        endSentence();
        boolean stands = lines.containsKey(section) && String.join(" ", lines.get(section)).contains(words);
        checks.holds(section + " does not say: " + words, stands);
        if (stands) {
            told.get(section).add(words);
        }
        label = section + ", " + words + " | ";
        checkedBefore = checks.checked();
    }

    private void endSentence() {
        checks.holds(label + "is told without a check", label.isEmpty() || checks.checked() > checkedBefore);
    }

    void due(String call, long got, long want) {
        checks.due(label + call, got, want);
    }

    void same(String call, String got, String want) {
        checks.same(label + call, got, want);
    }

    void holds(String what, boolean holds) {
        checks.holds(label + what, holds);
    }

    /** To be called behind the last test: each piece of the document has to be told by then. */
    void end() {
        endSentence();
        for (Map.Entry<String, List<String>> section : lines.entrySet()) {
            if (!NOT_TESTED.contains(section.getKey())) {
                for (String line : section.getValue()) {
                    endLine(section.getKey(), line);
                }
            }
        }
    }

    private void endLine(String section, String line) {
        String words = line.replaceFirst(SIGNATURE, "").replaceFirst("^- ", "");
        boolean isTitle = !words.endsWith(".") && !line.startsWith("- ");
        if (isTitle) {
            return;
        }
        for (String piece : words.replaceFirst("\\.$", "").split("[.;:] ")) {
            boolean found = told.get(section).stream().anyMatch(sentence -> sentence.contains(piece));
            checks.holds("no test tells of section " + section + ": " + piece, found);
        }
    }
}
