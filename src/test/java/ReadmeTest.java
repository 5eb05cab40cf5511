import java.io.IOException;
import java.nio.file.Files;
import java.nio.file.Path;
import java.util.ArrayList;
import java.util.List;
import java.util.TreeSet;
import java.util.concurrent.Callable;
import java.util.regex.Matcher;
import java.util.regex.Pattern;
import java.util.stream.Stream;

/** Does what README.md says: its program prints what stands behind the calls, and what the page names is there. */
public final class ReadmeTest {
    private static final String TESTS = "src/test/java/";
    private static final Check C = new Check();

    public static void main(String[] args) throws Exception {
        String text = Files.readString(Path.of("README.md"));
        List<String> programs = blocks(text, "java");
        List<String> commands = blocks(text, "sh");
        C.due("one program", 1, programs::size);
        C.due("how to run it, and how to run the tests", 2, commands::size);
        runProgram(programs.get(0), commands.get(0));
        lookAtLimits(text);
        C.due("the command for the tests", ".ci/run", () -> commands.get(1).strip());
        C.due("the command for the tests can be run", true, () -> Files.isExecutable(Path.of(commands.get(1).strip())));
        lookAtNames(text.replaceAll("(?s)```.*?```", ""));
        C.end();
    }

    /** What stands between the fences of this kind. */
    private static List<String> blocks(String text, String kind) {
        List<String> found = new ArrayList<>();
        Matcher matcher = Pattern.compile("(?s)```" + kind + "\n(.*?)```").matcher(text);
        while (matcher.find()) {
            found.add(matcher.group(1));
        }
        return found;
    }

    private static void runProgram(String program, String commands) throws IOException, InterruptedException {
        List<String> due = new ArrayList<>();
        Matcher told = Pattern.compile("System\\.out\\.println\\(.*\\); +// (.*)").matcher(program);
        while (told.find()) {
            due.add(told.group(1));
        }
        C.due("each line that is printed is told", program.split("println", -1).length - 1, due::size);
        List<String> printed = new ArrayList<>();
        try (Workshop beside = new Workshop()) {
            beside.copy("src/main/java/Filterbench.java", "Filterbench.java");
            beside.write("Example.java", program);
            for (String command : commands.strip().split("\n")) {
                Workshop.Outcome outcome = beside.run(command.split(" "));
                C.due(command + ": exit code", 0, outcome::exit);
                printed.addAll(outcome.lines());
            }
        }
        C.due("what the program prints", due, () -> printed);
    }

    /** The numbers that the page tells are those at which a sorter says that there are too many. */
    private static void lookAtLimits(String text) {
        Filterbench x = new Filterbench();
        int mails = count(() -> x.mail(0, 1, 0, 0, 1));
        int tests = count(() -> x.test('a', 0, 0));
        int rules = count(() -> x.rule(0, 0));
        int actions = count(() -> x.action(0, 0, 'k', 0));
        int[] script = {0};
        int scripts = count(() -> x.clear(script[0]++));
        String due = mails + " mails, " + tests + " tests, " + scripts + " scripts of " + rules + " rules and "
                + actions + " actions a rule";
        C.due("the page tells: " + due, true, () -> text.contains(due));
    }

    /** How often the call can be made before it is refused. */
    private static int count(Callable<?> call) {
        int made = 0;
        while (made < 512 && !String.valueOf(Check.answerOf(call)).startsWith("throws.")) {
            made++;
        }
        return made;
    }

    private static void lookAtNames(String prose) throws IOException {
        TreeSet<String> tests = new TreeSet<>();
        Matcher named = Pattern.compile("`([^`]*)`").matcher(prose);
        while (named.find()) {
            String name = named.group(1);
            if (name.contains("/")) {
                C.due("is there: " + name, true, () -> Files.exists(Path.of(name)));
            } else if (name.endsWith("Test") || name.endsWith("Model")) {
                C.due("is there: " + name, true, () -> Files.exists(Path.of(TESTS + name + ".java")));
            }
            if (name.endsWith("Test")) {
                tests.add(name + ".java");
            }
        }
        try (Stream<Path> files = Files.list(Path.of(TESTS))) {
            List<String> all = files.map(f -> f.getFileName().toString())
                .filter(f -> f.endsWith("Test.java")).sorted().toList();
            C.due("the tests that the page names", all, () -> List.copyOf(tests));
        }
    }
}
