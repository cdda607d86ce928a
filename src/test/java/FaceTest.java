import java.lang.reflect.Constructor;
import java.lang.reflect.Field;
import java.lang.reflect.Method;
import java.lang.reflect.Modifier;
import java.nio.file.Files;
import java.nio.file.Path;
import java.util.TreeSet;
import java.util.regex.Matcher;
import java.util.regex.Pattern;

/** The public face: just the members of the document, with the exceptions that it names. */
public final class FaceTest {

    private static final String[] FACE = {
        "int letter(int) throws IllegalArgumentException IllegalStateException",
        "int empty() throws IllegalStateException",
        "int universe() throws IllegalStateException",
        "int complement(int) throws IndexOutOfBoundsException IllegalStateException",
        "int union(int, int) throws IndexOutOfBoundsException IllegalStateException",
        "int intersection(int, int) throws IndexOutOfBoundsException IllegalStateException",
        "int difference(int, int) throws IndexOutOfBoundsException IllegalStateException",
        "int symmetric(int, int) throws IndexOutOfBoundsException IllegalStateException",
        "int terms() throws",
        "int size(int) throws IndexOutOfBoundsException",
        "char symbol(int, int) throws IndexOutOfBoundsException NoSuchElementException",
        "int regions(int) throws IndexOutOfBoundsException",
        "boolean covers(int, int) throws IndexOutOfBoundsException IllegalArgumentException",
        "boolean coversByTerm(int, int) throws IndexOutOfBoundsException IllegalArgumentException",
        "boolean isEqual(int, int) throws IndexOutOfBoundsException",
        "char rule(int) throws IndexOutOfBoundsException NoSuchElementException",
        "int step(int) throws IndexOutOfBoundsException NoSuchElementException UnsupportedOperationException"
            + " IllegalStateException",
        "int steps(int) throws IndexOutOfBoundsException",
        "int normalForm(int) throws IndexOutOfBoundsException UnsupportedOperationException IllegalStateException",
        "int primes(int) throws IndexOutOfBoundsException",
        "int primesByTrying(int) throws IndexOutOfBoundsException",
        "char prime(int, int, int) throws IndexOutOfBoundsException NoSuchElementException"
            + " IllegalArgumentException",
        "int assume(char, int, int) throws IllegalArgumentException IndexOutOfBoundsException"
            + " IllegalStateException",
        "int drop() throws IllegalStateException",
        "int assumptions() throws",
        "boolean setGoal(char, int, int) throws IllegalArgumentException IndexOutOfBoundsException",
        "boolean isConsistent() throws",
        "int deniedBy(int) throws IllegalArgumentException NoSuchElementException",
        "boolean follows() throws IllegalStateException",
        "char why() throws IllegalStateException NoSuchElementException",
        "int witness() throws IllegalStateException UnsupportedOperationException NoSuchElementException",
        "int elements() throws IllegalStateException NoSuchElementException",
        "int elementsByTrying() throws IllegalStateException NoSuchElementException",
        "int region(int) throws IllegalStateException NoSuchElementException",
        "long models(int) throws IllegalArgumentException",
        "long modelsByTrying(int) throws IllegalArgumentException",
        "float density(int) throws IndexOutOfBoundsException",
    };

    public static void main(String[] args) throws Exception {
        document(Files.readString(Path.of("../shared/DOC.md")), Files.readString(Path.of("src/main/java/Gimlet.java")));
        TreeSet<String> want = new TreeSet<>();
        TreeSet<String> names = new TreeSet<>();
        for (String member : FACE) {
            want.add(member);
            names.add(member.substring(member.indexOf(' ') + 1, member.indexOf('(')));
        }
        TreeSet<String> got = new TreeSet<>();
        for (Method method : Gimlet.class.getDeclaredMethods()) {
            if (method.isSynthetic()) {
                continue;
            }
            if (Modifier.isPrivate(method.getModifiers())) {
                Check.holds("no private method is named " + method.getName(), !names.contains(method.getName()));
            } else {
                Check.due("modifiers of " + method.getName(), method.getModifiers(), Modifier.PUBLIC);
                got.add(told(method));
            }
        }
        Check.due("the methods", got, want);
        Check.due("public and final", Gimlet.class.getModifiers(), Modifier.PUBLIC | Modifier.FINAL);
        Constructor<?>[] constructors = Gimlet.class.getDeclaredConstructors();
        Check.due("constructors", constructors.length, 1);
        Check.due("its parameters", constructors[0].getParameterCount(), 0);
        Check.due("its modifiers", constructors[0].getModifiers(), Modifier.PUBLIC);
        fields(Gimlet.class);
        for (Class<?> inside : Gimlet.class.getDeclaredClasses()) {
            Check.holds(inside + " is private and static", Modifier.isPrivate(inside.getModifiers())
                    && Modifier.isStatic(inside.getModifiers()));
            fields(inside);
            for (Method method : inside.getDeclaredMethods()) {
                Check.holds(inside + " has no method of the face: " + method.getName(),
                        !names.contains(method.getName()));
            }
        }
        Check.finish("FaceTest");
    }

    /** The list above is the document's, and the program has its calls in the order and the parts told there. */
    private static void document(String document, String program) {
        String declared = "(?m)^    public (\\w+) (\\w+)\\(([^)]*)\\)( throws [^;]*)?;$";
        Matcher method = Pattern.compile(declared).matcher(document);
        int found = 0;
        while (method.find()) {
            String parameters = method.group(3).replaceAll("(\\w+) \\w+", "$1");
            String thrown = method.group(4) == null ? "" : method.group(4).substring(8).replace(",", "");
            String told = method.group(1) + " " + method.group(2) + "(" + parameters + ") throws " + thrown;
            Check.due("method " + found + " of the document", told.trim(), found < FACE.length ? FACE[found] : "");
            found++;
        }
        Check.due("methods of the document", found, FACE.length);
        Matcher part = Pattern.compile("Ahead of the calls (.*) the interface says: ([a-z ]+)\\.").matcher(document);
        int parts = 0;
        int end = 0;
        while (part.find()) {
            parts++;
            int start = program.indexOf("// ---- " + part.group(2) + "\n");
            Check.holds(part.group(2) + " is said behind the part before", start > end);
            for (String name : part.group(1).split(",? ")) {
                int call = program.indexOf(" " + name.replace("`", "") + "(", start);
                Check.holds(name + " stands behind the call before it", call > Math.max(start, end));
                end = call;
            }
        }
        Check.due("parts", parts, 5);
    }

    private static void fields(Class<?> type) {
        int own = 0;
        for (Field field : type.getDeclaredFields()) {
            Check.holds(field + " is private", Modifier.isPrivate(field.getModifiers()));
            if (Modifier.isStatic(field.getModifiers())) {
                Check.holds(field + " is final", Modifier.isFinal(field.getModifiers()));
            } else {
                own++;
            }
        }
        Check.holds(type + " has twenty fields at most", own <= 20);
    }

    private static String told(Method method) {
        StringBuilder told = new StringBuilder();
        told.append(method.getReturnType().getName()).append(' ').append(method.getName()).append('(');
        String comma = "";
        for (Class<?> parameter : method.getParameterTypes()) {
            told.append(comma).append(parameter.getName());
            comma = ", ";
        }
        told.append(") throws");
        for (Class<?> exception : method.getExceptionTypes()) {
            told.append(' ').append(exception.getSimpleName());
        }
        return told.toString();
    }
}
