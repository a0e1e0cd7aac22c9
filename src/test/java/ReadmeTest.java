import java.io.IOException;
import java.nio.file.Files;
import java.nio.file.Path;
import java.util.ArrayList;
import java.util.List;
import java.util.regex.Matcher;
import java.util.regex.Pattern;

/** README.md, so that it does not fall behind the class; run from the project's directory, as .ci/run does. */
public final class ReadmeTest {
    private static final Pattern PUBLIC_METHOD = Pattern.compile("public ((?:int|boolean) \\w+\\([^)]*\\)[^{]*)\\{");

    private final List<String> rows;
    private int at = 0;

    private ReadmeTest(List<String> rows) {
        this.rows = rows;
    }

    public static void main(String[] args) throws IOException {
        List<String> readme = Files.readAllLines(Path.of("README.md"));
        String program = Files.readString(Path.of("src/main/java/TwinKeepers.java"));
        eachCallHasItsHeading(readme, program);
        new ReadmeTest(example(readme)).theExampleAnswersSo();
        Probe.end();
    }

    private static void eachCallHasItsHeading(List<String> readme, String program) {
        List<String> due = new ArrayList<>();
        Matcher found = PUBLIC_METHOD.matcher(program);
        while (found.find()) {
            due.add("### `" + found.group(1).trim().replaceAll("\\s+", " ") + "`");
        }
        Probe.due("the calls of the face", due.size(), 12);
        List<String> told = new ArrayList<>(readme);
        told.removeIf(line -> !line.startsWith("### "));
        Probe.due("the headings of calls", told, due);
    }

    private static List<String> example(List<String> readme) {
        int from = readme.indexOf("```java") + 1;
        List<String> behind = readme.subList(from, readme.size());
        return behind.subList(0, behind.indexOf("```"));
    }

    /** The next row is this call, and its comment begins with this answer. */
    private void row(String call, Object answer) {
        String told = at < rows.size() ? rows.get(at) : "nothing";
        at++;
        String[] parts = told.split("; *// |: ", 3);
        Probe.due("the call in row " + at, parts[0], call);
        Probe.due("the answer of row " + at, parts.length > 1 ? parts[1] : "none", String.valueOf(answer));
    }

    private void theExampleAnswersSo() {
        TwinKeepers x = new TwinKeepers();
        Probe.due("the first row", rows.get(at++), "TwinKeepers x = new TwinKeepers();");
        row("x.open(0, 1)", x.open(0, 1));
        row("x.feed(0x766bL, 2)", x.feed(0x766bL, 2));
        row("x.run(0, 2, 1, 1, 0 + 8 * 1)", x.run(0, 2, 1, 1, 0 + 8 * 1));
        row("x.byteAt(0)", x.byteAt(0));
        row("x.feed(0x776bL, 2)", x.feed(0x776bL, 2));
        row("x.run(0, 3, 1, 1, 0 + 8 * 1)", x.run(0, 3, 1, 1, 0 + 8 * 1));
        row("x.place()", x.place());
        row("x.feed('k', 1)", x.feed('k', 1));
        row("x.read(0, 3 + 8 * 1)", x.read(0, 3 + 8 * 1));
        row("x.byteAt(0)", x.byteAt(0));
        row("x.byteAt(1)", x.byteAt(1));
        row("x.make(0, 1)", x.make(0, 1));
        row("x.row(1)", x.row(1));
        Probe.due("rows of the example", rows.size(), at);
    }
}
