import java.io.IOException;
import java.nio.file.Files;
import java.nio.file.Path;
import java.util.ArrayList;
import java.util.List;

/** The answers that README.md tells are those of the class, and the calls are in its order. */
public final class LoftTreeReadme {
    private static final List<String> told = new ArrayList<>();
    private static int wrong = 0;

    private LoftTreeReadme() {
    }

    private static void due(String call, Object got) {
        String line = call + "; " + (got.equals(Long.MIN_VALUE) ? "NEVER" : got);
        if (told.isEmpty() || !told.get(0).equals(line)) {
            wrong++;
            System.out.println("the class answers " + line + ", README.md has " + (told.isEmpty() ? "nothing" : told.get(0)));
        }
        if (!told.isEmpty()) {
            told.remove(0);
        }
    }

    public static void main(String[] args) throws IOException {
        StringBuilder text = new StringBuilder();
        for (String line : Files.readAllLines(Path.of("README.md"))) {
            if (line.matches("loft\\..*; *// .*")) {
                told.add(line.replaceAll("; *// ([^:]*).*", "; $1"));
            } else if (line.matches(".*(Tape\\.feed\\(loft, |^ +\\+ )\".*")) {
                text.append(line.replaceAll("^[^\"]*\"|\"[^\"]*$", ""));
            }
        }
        example(text.toString());
        if (!told.isEmpty()) {
            wrong++;
            System.out.println("README.md has more: " + told);
        }
        System.out.println(wrong == 0 ? "README.md tells what the class answers" : wrong + " answers are not as README.md has them");
        if (wrong != 0) {
            System.exit(1);
        }
    }

    private static void example(String text) {
        LoftTree loft = new LoftTree();
        Tape.feed(loft, text);
        due("loft.text()", loft.text());
        due("loft.best(0)", loft.best(0));
        due("loft.step(0, 0)", loft.step(0, 0));
        due("loft.step(0, 1)", loft.step(0, 1));
        due("loft.best(1)", loft.best(1));
        due("loft.know()", loft.know());
        due("loft.edge(0, 1, 0)", loft.edge(0, 1, 0));
        due("loft.plan(0, 0, 0)", loft.plan(0, 0, 0));
        due("loft.cost(0)", loft.cost(0));
        due("loft.judge()", loft.judge());
        due("loft.take(0)", loft.take(0));
        due("loft.cost(0)", loft.cost(0));
        due("loft.costTo(2)", loft.costTo(2));
        due("loft.go(1)", loft.go(1));
        due("loft.now(1)", loft.now(1));
    }
}
