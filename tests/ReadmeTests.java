import java.io.IOException;
import java.nio.file.Files;
import java.nio.file.Path;
import java.util.List;

/** The example of README.md: each of its lines, with the answer that it tells. */
public final class ReadmeTests {
    private final List<String> readme;
    private final Sky sky = new Sky();
    private int shown = 0;

    private ReadmeTests(List<String> readme) {
        this.readme = readme;
    }

    /** README.md has this line, tells this answer behind it, and the call answers so. */
    private ReadmeTests shows(String line, Object answer, String name, int... a) {
        Sky.sentence(line, () -> {
            Sky.compare("a line in README.md that tells " + answer, true, tells(line, "// " + answer));
            sky.due(answer, name, a);
        });
        shown++;
        return this;
    }

    private boolean tells(String line, String answer) {
        for (String text : readme) {
            String told = text.substring(Math.max(0, text.indexOf("// "))).trim();
            if (text.startsWith(line + " ") && (told.equals(answer) || told.startsWith(answer + ":"))) {
                return true;
            }
        }
        return false;
    }

    /** No line of the example, but for the one that makes the sky, is left out here. */
    private void end() {
        int lines = 0;
        for (String text : readme) {
            lines += text.contains("= sky.") ? 1 : 0;
        }
        int counted = lines;
        Sky.sentence("the lines of README.md's example", () ->
                Sky.compare("as many tested", counted, shown));
        Sky.end();
    }

    public static void main(String[] args) throws IOException {
        new ReadmeTests(Files.readAllLines(Path.of("README.md")))
                .shows("int top = sky.conjure(5, 30, 20);", 0, "conjure", 5, 30, 20)
                .shows("int side = sky.conjure(1, 9, 40);", 1, "conjure", 1, 9, 40)
                .shows("int low = sky.hang(6, 20, top, side);", 2, "hang", 6, 20, 0, 1)
                .shows("int load = sky.stone(top, 7);", 8, "stone", 0, 7)
                .shows("int stair = sky.stair(top, low);", 0, "stair", 0, 2)
                .shows("int far = sky.steps(low, top);", 1, "steps", 2, 0)
                .shows("int alone = sky.without(top);", 1, "without", 0)
                .shows("int days = sky.lasts(top);", 7, "lasts", 0)
                .shows("int best = sky.advise(8, 9);", 0, "advise", 8, 9)
                .shows("int fallen = sky.prop(top, 8);", 0, "prop", 0, 8)
                .shows("int later = sky.pass(9);", 0, "pass", 9)
                .shows("int last = sky.pass(1);", 1, "pass", 1)
                .shows("int gone = sky.joins(stair, 2);", 1, "joins", 0, 2)
                .shows("int from = sky.first(low);", 1, "first", 2)
                .shows("double mean = sky.mean();", 6.5, "mean")
                .end();
    }
}
