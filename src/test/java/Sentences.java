import java.io.IOException;
import java.nio.file.Files;
import java.nio.file.Path;
import java.util.ArrayList;
import java.util.HashSet;
import java.util.List;
import java.util.Map;
import java.util.Set;
import java.util.TreeMap;

/**
 * The sentences of the document, by their promises; those ahead of the promises stand under 0. Each
 * boundary test says which sentence it is about, so that a sentence without a test is found.
 */
final class Sentences {

    private static final Path DOCUMENT = Path.of("../shared/DOC.md");
    private static final Map<Integer, List<String>> ALL = new TreeMap<>();
    private static final Set<String> TOLD = new HashSet<>();

    private static String open = null;
    private static int callsBefore = 0;

    private Sentences() {
    }

    /** The checks from now on are about the one sentence of the promise that holds these words. */
    static void about(int promise, String words) {
        close();
        open = (promise == 0 ? "ahead of the promises" : "promise " + promise) + ", \"" + words + "\"";
        callsBefore = Check.calls();
        tell(promise, words);
        Check.context(open + ": ");
    }

    /** A sentence that tells nothing which has an edge. */
    static void hasNoBoundary(int promise, String words) {
        close();
        tell(promise, words);
    }

    private static void close() {
        Check.context("");
        if (open != null) {
            Check.holds(open + " has a test", Check.calls() > callsBefore);
        }
        open = null;
    }

    private static void tell(int promise, String words) {
        if (!Files.exists(DOCUMENT)) {
            return;
        }
        int found = 0;
        for (String sentence : sentences().getOrDefault(promise, List.of())) {
            if (sentence.contains(words)) {
                found++;
                TOLD.add(promise + " " + sentence);
            }
        }
        Check.due("sentences of promise " + promise + " with \"" + words + "\"", found, 1);
    }

    static void allTold() {
        close();
        sentences().forEach((promise, sentences) -> {
            for (String sentence : sentences) {
                boolean told = TOLD.contains(promise + " " + sentence);
                Check.holds("promise " + promise + " has a test of: " + sentence, told);
            }
        });
    }

    private static Map<Integer, List<String>> sentences() {
        if (ALL.isEmpty() && Files.exists(DOCUMENT)) {
            try {
                read(Files.readString(DOCUMENT));
            } catch (IOException e) {
                throw new java.io.UncheckedIOException(e);
            }
        }
        return ALL;
    }

    private static void read(String document) {
        for (String section : document.split("(?m)^## ")) {
            String heading = section.substring(0, section.indexOf('\n'));
            String body = section.substring(section.indexOf('\n')).trim();
            if (heading.equals("What it is") || heading.equals("Terms")) {
                readAhead(body);
            } else if (heading.matches("Promise \\d+: .*")) {
                readPromise(Integer.parseInt(heading.substring(8, heading.indexOf(':'))), body);
            }
        }
    }

    private static void readAhead(String body) {
        for (String paragraph : body.split("\n\n")) {
            for (String sentence : paragraph.replace('\n', ' ').split("(?<=\\.) (?=[A-Z])")) {
                boolean heading = sentence.matches("[A-Z][a-z ]*\\.") && sentence.split(" ").length <= 3;
                if (!heading && !sentence.startsWith("Ahead of the calls")) {
                    add(0, sentence);
                }
            }
        }
    }

    private static void readPromise(int promise, String body) {
        for (String paragraph : body.split("\n\n")) {
            if (!paragraph.startsWith("- ")) {
                add(promise, paragraph.replace('\n', ' ').replaceFirst("^`[^`]*`: ", ""));
            }
        }
    }

    /** A promise may say the same twice. */
    private static void add(int promise, String sentence) {
        List<String> sentences = ALL.computeIfAbsent(promise, key -> new ArrayList<>());
        if (!sentences.contains(sentence)) {
            sentences.add(sentence);
        }
    }
}
