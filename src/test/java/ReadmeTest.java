import java.io.IOException;
import java.nio.file.Files;
import java.nio.file.Path;
import java.util.List;

/** The example of README.md, so that what it tells a reader stays true. */
public final class ReadmeTest {
    private static final Tally TALLY = new Tally();
    private static List<String> readme;

    private static void due(String call, long got, long want) {
        TALLY.due(call, got, want);
        boolean told = readme.stream().anyMatch(line -> line.startsWith("disc." + call + ";")
                && line.replaceFirst(".*// ", "").matches(want + "\\b.*"));
        TALLY.due(call + " is told in README.md", told, true);
    }

    public static void main(String[] args) throws IOException {
        readme = Files.readAllLines(Path.of("README.md"));
        CompactDisc disc = new CompactDisc();
        due("fill(480, 36)", disc.fill(480, 36), 480);
        due("entry(0, 0, 1, 0)", disc.entry(0, 0, 1, 0), 1);
        due("entry(1, 0, 1, 1)", disc.entry(1, 0, 1, 1), 2);
        TALLY.due("begin(150)", disc.begin(150), true);
        due("press()", disc.press(), 131);
        due("play(2, 2, 0)", disc.play(2, 2, 0), 0);
        due("q(0, 5)", disc.q(0, 5), 150);
        due("scratch(20, 15)", disc.scratch(20, 15), 8820);
        due("play(1, 1, 0)", disc.play(1, 1, 0), 0);
        due("scratch(35, 1)", disc.scratch(35, 1), 588);
        due("play(1, 1, 0)", disc.play(1, 1, 0), 25);
        due("told(4)", disc.told(4), 15);
        due("heard(6, true)", disc.heard(6, true), 951);
        TALLY.end();
    }
}
