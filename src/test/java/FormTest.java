import java.lang.reflect.Constructor;
import java.lang.reflect.Field;
import java.lang.reflect.Member;
import java.lang.reflect.Method;
import java.lang.reflect.Modifier;
import java.nio.file.Files;
import java.nio.file.Path;
import java.util.ArrayList;
import java.util.Arrays;
import java.util.List;
import java.util.TreeSet;
import java.util.regex.Matcher;
import java.util.regex.Pattern;
import java.util.stream.Collectors;

/** Looks at the face of the class and, as far as a plain look can tell, at the rules of LANGUAGE.md. */
public final class FormTest {
    private static final Check C = new Check();

    private static final String FACE = """
        boolean areSame(int, int) IndexOutOfBoundsException
        boolean hasFlag(int, int) IndexOutOfBoundsException
        boolean holds(int, int) IndexOutOfBoundsException
        boolean isShadowed(int, int) IndexOutOfBoundsException
        boolean isTrue()
        double meanSize(int) IndexOutOfBoundsException ArithmeticException
        float goneShare() ArithmeticException
        int action(int, int, char, int) IndexOutOfBoundsException IllegalArgumentException IllegalStateException
        int attempt(int, int) IndexOutOfBoundsException
        int boxOf(int) IndexOutOfBoundsException NoSuchElementException
        int clashes()
        int clear(int) IndexOutOfBoundsException
        int deliver(int) IndexOutOfBoundsException
        int difference(int, int) IndexOutOfBoundsException
        int done()
        int doneAt(int) IndexOutOfBoundsException
        int faults(char) IllegalArgumentException
        int flags()
        int forwarded(int) IndexOutOfBoundsException
        int inBox(int) IndexOutOfBoundsException
        int learn(int) IndexOutOfBoundsException NoSuchElementException IllegalStateException
        int mail(int, int, int, int, int) IllegalArgumentException IllegalStateException
        int move(int, int) IndexOutOfBoundsException NoSuchElementException
        int pass(int) IllegalArgumentException
        int reorder(int, int, int) IndexOutOfBoundsException
        int replies(int) IndexOutOfBoundsException
        int rule(int, int) IndexOutOfBoundsException IllegalStateException
        int setQuota(int, int) IndexOutOfBoundsException IllegalArgumentException
        int test(char, int, int) IllegalArgumentException IndexOutOfBoundsException IllegalStateException
        long sum()
        """;

    public static void main(String[] args) throws Exception {
        Class<?> face = Filterbench.class;
        C.due("the class is public and final", "public final", () -> Modifier.toString(face.getModifiers()));
        TreeSet<String> open = new TreeSet<>();
        for (Method m : face.getDeclaredMethods()) {
            if (!isPrivate(m)) {
                open.add(lineOf(m));
            }
        }
        C.due("the open methods", FACE.strip(), () -> String.join("\n", open));
        for (Field f : face.getDeclaredFields()) {
            C.due("private: " + f.getName(), true, () -> isPrivate(f));
        }
        Constructor<?>[] constructors = face.getDeclaredConstructors();
        C.due("constructors", "[public Filterbench()]", () -> Arrays.toString(constructors));
        lookAtClasses(face);
        String text = Files.readString(Path.of("src/main/java/Filterbench.java"));
        lookAtText(text);
        lookAtOrder(text);
        C.end();
    }

    /** The calls in the document's order, with the lines that the interface says ahead of them. */
    private static final List<String> ORDER = List.of("---- mails", "mail", "pass", "setQuota", "inBox", "boxOf",
        "hasFlag", "move", "---- tests and rules", "test", "holds", "rule", "action", "clear", "reorder",
        "---- deliveries and tries", "deliver", "attempt", "done", "doneAt", "clashes", "faults", "flags", "replies",
        "forwarded", "difference", "---- rules and learning", "isShadowed", "areSame", "learn", "sum", "goneShare",
        "meanSize", "isTrue");

    private static void lookAtOrder(String text) {
        List<String> found = new ArrayList<>();
        Pattern call = Pattern.compile("    public (?:int|long|boolean|float|double) (\\w+)\\(.*");
        for (String line : text.lines().toList()) {
            Matcher matcher = call.matcher(line);
            if (matcher.matches()) {
                found.add(matcher.group(1));
            } else if (line.startsWith("    // ---- ") && found.size() < ORDER.size()) {
                found.add(line.substring(7));
            }
        }
        C.due("the calls in their order", ORDER, () -> found);
    }

    private static boolean isPrivate(Member m) {
        return Modifier.isPrivate(m.getModifiers()) || m.isSynthetic();
    }

    private static String lineOf(Method m) {
        String parameters = Arrays.stream(m.getParameterTypes()).map(Class::getSimpleName).collect(Collectors.joining(", "));
        String thrown = Arrays.stream(m.getExceptionTypes()).map(e -> " " + e.getSimpleName()).collect(Collectors.joining());
        return m.getReturnType().getSimpleName() + " " + m.getName() + "(" + parameters + ")" + thrown;
    }

    private static void lookAtClasses(Class<?> face) {
        TreeSet<String> open = new TreeSet<>();
        for (Method m : face.getDeclaredMethods()) {
            if (!isPrivate(m)) {
                open.add(m.getName());
            }
        }
        List<Class<?>> all = new ArrayList<>(List.of(face.getDeclaredClasses()));
        C.due("at most twelve classes", true, () -> all.size() + 1 <= 12);
        for (Class<?> inside : all) {
            C.due("static: " + inside.getName(), true, () -> Modifier.isStatic(inside.getModifiers()));
        }
        all.add(face);
        for (Class<?> some : all) {
            long fields = Arrays.stream(some.getDeclaredFields()).filter(f -> !Modifier.isStatic(f.getModifiers())).count();
            C.due("at most twenty fields: " + some.getName(), true, () -> fields <= 20);
            for (Field f : some.getDeclaredFields()) {
                boolean fixed = !Modifier.isStatic(f.getModifiers()) || Modifier.isFinal(f.getModifiers());
                C.due("static is final: " + f, true, () -> fixed);
            }
            for (Method m : some.getDeclaredMethods()) {
                C.due("at most seven parameters: " + m, true, () -> m.getParameterCount() <= 7);
                boolean own = some != face || isPrivate(m);
                C.due("no name of the face: " + m, false, () -> own && open.contains(m.getName()));
            }
        }
    }

    private static void lookAtText(String text) {
        String code = text.replaceAll("(?s)/\\*.*?\\*/", "").replaceAll("//[^\n]*", "");
        for (String word : new String[] {"->", "::", "try", "catch", "finally", "synchronized", "assert", "Exact(",
            "System.", "Arrays.", "static {", "instanceof", "Object", "toString", "equals", "hashCode", "var ", "\" +"}) {
            C.due("not used: " + word, false, () -> code.contains(word));
        }
        C.due("one import", List.of("import java.util.NoSuchElementException;"),
            () -> code.lines().filter(l -> l.startsWith("import")).toList());
        C.due("ASCII", true, () -> text.chars().allMatch(ch -> ch < 128));
        int inMethod = 0;
        for (String line : code.lines().toList()) {
            inMethod++;
            // A member begins behind an empty line, or ends one.
            if (line.isBlank()) {
                int lines = inMethod;
                C.due("at most sixty lines together", true, () -> lines <= 60);
                inMethod = 0;
            }
        }
    }
}
