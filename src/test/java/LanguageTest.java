import java.nio.file.Files;
import java.nio.file.Path;
import java.util.TreeSet;
import java.util.regex.Matcher;
import java.util.regex.Pattern;

/**
 * The rules of LANGUAGE.md that a look at the program's text can check. It is run from the root of
 * the project.
 */
public final class LanguageTest {

    private static final String[] BANNED = {
        "package ", "->", "::", "synchronized", "assert ", "finally", "Exact(", "hashCode", "getClass", "getMessage",
        "native", "volatile", "transient", "protected", "static {", "nanoTime", "currentTimeMillis", "Random",
        "Thread", "System.out", "System.in", "System.err", "System.exit", "System.getenv", "catch (Throwable",
        "catch (Exception", "catch (RuntimeException", "catch (Array", "catch (Null", "catch (Class", "catch (Negative",
        "catch (Arithmetic", "catch (Error",
    };

    public static void main(String[] args) throws Exception {
        String whole = Files.readString(Path.of("src/main/java/Gimlet.java"));
        String text = whole.replaceAll("(?s)/\\*.*?\\*/", "").replaceAll("//[^\n]*", "");
        for (String banned : BANNED) {
            Check.holds("the program does without '" + banned + "'", !text.contains(banned));
        }
        for (char sign : whole.toCharArray()) {
            if (sign < 32 && sign != '\n' || sign > 126) {
                Check.holds("plain signs alone, not " + (int) sign, false);
            }
        }
        allowed("import", found(text, "import [^;]*;"), "import java.util.NoSuchElementException;",
                "import java.util.ArrayList;", "import java.util.List;", "import java.util.Iterator;",
                "import java.util.Arrays;");
        allowed("exception", found(text, "new \\w+(Exception|Error|Throwable)\\b"), "new IllegalStateException",
                "new IllegalArgumentException", "new IndexOutOfBoundsException", "new ArithmeticException",
                "new UnsupportedOperationException", "new NoSuchElementException", "new RuntimeException");
        Check.holds("each exception has a written text or none",
                found(text, "throw new \\w+\\((?!\"[^\"]*\"\\);|\\);)").isEmpty());
        Check.holds("twelve classes at most", text.split("\\bclass \\w").length - 1 <= 12);
        methods(text);
        Check.finish("LanguageTest");
    }

    private static void allowed(String what, TreeSet<String> found, String... members) {
        for (String one : found) {
            Check.holds(what + " that the rules allow: " + one, java.util.List.of(members).contains(one));
        }
    }

    private static TreeSet<String> found(String text, String pattern) {
        TreeSet<String> found = new TreeSet<>();
        Matcher matcher = Pattern.compile(pattern).matcher(text);
        while (matcher.find()) {
            found.add(matcher.group());
        }
        return found;
    }

    /** A method is short and takes seven parameters at most; it ends at its own depth. */
    private static void methods(String text) {
        Pattern head = Pattern.compile("(?m)^( {4}| {8})(?:\\w+ )*\\w+ (\\w+)\\(([^)]*)\\)[\\w\\s,]*\\{$");
        Matcher matcher = head.matcher(text);
        int methods = 0;
        while (matcher.find()) {
            methods++;
            int end = text.indexOf("\n" + matcher.group(1) + "}", matcher.end());
            int lines = text.substring(matcher.start(), end).split("\n").length;
            Check.holds(matcher.group(2) + " is short", lines <= 60);
            Check.holds(matcher.group(2) + " takes seven parameters at most", matcher.group(3).split(",").length <= 7);
        }
        Check.holds("the methods were found", methods > 100);
    }
}
