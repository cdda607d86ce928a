import java.nio.file.Files;
import java.nio.file.Path;
import java.util.List;

/** The example of README.md: each line of it stands here with its call, and answers what is told there. */
public final class ReadmeTest {

    private static List<String> lines;
    private static int told = 0;

    public static void main(String[] args) throws Exception {
        String readme = Files.readString(Path.of("README.md"));
        int start = readme.indexOf("```java\n") + 8;
        lines = readme.substring(start, readme.indexOf("```", start)).lines().toList();
        example();
        Check.due("lines of the example that stand here", told, lines.size());
        tests(readme);
        Check.finish("ReadmeTest");
    }

    private static void line(String words) {
        Check.due("line " + told + " of the example", told < lines.size() ? lines.get(told) : "", words);
        told++;
    }

    private static void line(String words, Object got, Object want) {
        line(words);
        Check.due(words, got, want);
    }

    private static void example() {
        line("Gimlet gimlet = new Gimlet();");
        Gimlet gimlet = new Gimlet();
        line("int a = gimlet.letter(0);");
        int a = gimlet.letter(0);
        line("int b = gimlet.letter(1);");
        int b = gimlet.letter(1);
        line("int c = gimlet.letter(2);");
        int c = gimlet.letter(2);
        line("gimlet.assume('s', a, b);          // each element of a is in b", gimlet.assume('s', a, b), 0);
        line("gimlet.assume('s', b, c);          // each element of b is in c", gimlet.assume('s', b, c), 1);
        line("gimlet.setGoal('s', a, c);", gimlet.setGoal('s', a, c), false);
        line("gimlet.follows();                  // true", gimlet.follows(), true);
        line("gimlet.why();                      // 'r': no element can be in a and not in c", gimlet.why(), 'r');
        line("gimlet.setGoal('s', c, a);", gimlet.setGoal('s', c, a), true);
        line("gimlet.follows();                  // false", gimlet.follows(), false);
        line("gimlet.elements();                 // 1: the least counterexample has one element,",
                gimlet.elements(), 1);
        line("gimlet.region(0);                  // 4: which is in c alone", gimlet.region(0), 4);
        line("int n = gimlet.normalForm(gimlet.complement(gimlet.union(a, b)));");
        int n = gimlet.normalForm(gimlet.complement(gimlet.union(a, b)));
        line("gimlet.symbol(n, 0);               // 'I', for \"ICaCb\"", gimlet.symbol(n, 0), 'I');
        Check.due("the normal form", Check.text(gimlet, n), "ICaCb");
    }

    /** How to run the tests, and what each of them checks. */
    private static void tests(String readme) throws Exception {
        Check.holds("README.md names .ci/run", readme.contains("    .ci/run\n"));
        int tests = 0;
        try (var files = Files.list(Path.of("src/test/java"))) {
            for (Path file : (Iterable<Path>) files::iterator) {
                String name = file.getFileName().toString().replace(".java", "");
                if (name.endsWith("Test")) {
                    tests++;
                    Check.holds("README.md tells what " + name + " checks", readme.contains("| `" + name + "` |"));
                }
            }
        }
        Check.holds("there are tests", tests > 10);
    }
}
