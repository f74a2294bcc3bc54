import java.io.IOException;
import java.lang.reflect.Field;
import java.lang.reflect.Method;
import java.lang.reflect.Modifier;
import java.nio.file.Files;
import java.nio.file.Path;
import java.util.List;
import java.util.regex.Matcher;
import java.util.regex.Pattern;

/** README.md: its calls answer as it says, and it names all of the face. */
public final class ReadmeTests {
    private static final Checks CHECKS = new Checks();
    private static final Pattern EXAMPLE = Pattern.compile("pots\\.\\w+\\(.*\\); *// (-?[0-9]+): .*");
    // One row of the table of calls: its name and its parameters.
    private static final Pattern CALL = Pattern.compile("\\| `(\\w+)\\((.*?)\\)` \\|.*");
    private static final Pattern CONSTANT = Pattern.compile("\\| `(\\w+)` \\| (-?[0-9]+) \\|.*");

    private final List<String> lines;
    private int nextLine = 0;

    private ReadmeTests(List<String> lines) {
        this.lines = lines;
    }

    public static void main(String[] args) throws IOException, IllegalAccessException {
        ReadmeTests tests = new ReadmeTests(Files.readAllLines(Path.of("README.md")));
        tests.example();
        tests.errorCodes();
        tests.calls();
        tests.works();
        CHECKS.end();
    }

    private void example() {
        ThinnedPots pots = new ThinnedPots();
        told("pots.fill(0, 0, 3);", pots.fill(0, 0, 3));
        told("pots.thin(0);", pots.thin(0));
        told("pots.pot(0, 5);", pots.pot(0, 5));
        told("pots.want(2, 33, 0, 0);", pots.want(2, 33, 0, 0));
        told("pots.nearest(2, 0);", pots.nearest(2, 0));
        told("pots.dip(0, 6);", pots.dip(0, 6));
        told("pots.paint(2);", pots.paint(2));
        told("pots.panel(2, 7);", pots.panel(2, 7));
        told("pots.put(packed(\"r;p3\"));", pots.put(Checks.packed("r;p3")));
        told("pots.fault();", pots.fault());
        told("pots.run();", pots.run());
        told("pots.undo();", pots.undo());
        told("pots.brush(4);", pots.brush(4));
        told("pots.fill(8, 0, 1);", pots.fill(8, 0, 1));
        CHECKS.same("the example goes on behind its tests", nextExample(), "");
    }

    /** The next call of the page has to be this one, with this answer behind it. */
    private void told(String call, int answer) {
        String line = nextExample();
        CHECKS.holds("the page has " + line + " where " + call + " is due", line.startsWith(call));
        Matcher matcher = EXAMPLE.matcher(line);
        if (matcher.matches()) {
            CHECKS.due(call, answer, Integer.parseInt(matcher.group(1)));
        }
    }

    private String nextExample() {
        while (nextLine < lines.size()) {
            String line = lines.get(nextLine);
            nextLine++;
            if (line.startsWith("pots.")) {
                CHECKS.holds(line + " tells its answer", EXAMPLE.matcher(line).matches());
                return line;
            }
        }
        return "";
    }

    private void errorCodes() throws IllegalAccessException {
        int found = 0;
        for (Field field : ThinnedPots.class.getFields()) {
            for (String line : lines) {
                Matcher row = CONSTANT.matcher(line);
                if (row.matches() && row.group(1).equals(field.getName())) {
                    CHECKS.due(field.getName(), field.getInt(null), Integer.parseInt(row.group(2)));
                    found++;
                }
            }
        }
        CHECKS.due("rows of error codes, and NONE", found, 6);
    }

    private void calls() {
        for (Method method : ThinnedPots.class.getDeclaredMethods()) {
            if (Modifier.isPublic(method.getModifiers())) {
                int rows = 0;
                for (String line : lines) {
                    Matcher row = CALL.matcher(line);
                    if (row.matches() && row.group(1).equals(method.getName())) {
                        int parameters = row.group(2).isEmpty() ? 0 : row.group(2).split(", ").length;
                        CHECKS.due("parameters of " + method.getName(), parameters, method.getParameterCount());
                        rows++;
                    }
                }
                CHECKS.due("rows of " + method.getName(), rows, 1);
            }
        }
    }

    /** The works that the page shows can all be run, one after the other. */
    private void works() {
        String page = String.join("\n", lines);
        String shown = "0+3r2t;0!;0>1:5;d0:6;p2;r";
        for (String work : shown.split(";")) {
            CHECKS.holds("the page shows " + work, page.contains("`" + work + "`"));
        }
        ThinnedPots pots = new ThinnedPots();
        Checks.type(pots, shown);
        CHECKS.due("works done of " + shown, pots.run(), 6);
        CHECKS.due("poured", pots.pot(1, 4), 5);
        CHECKS.due("painted", pots.panel(2, 8), 1);
    }
}
