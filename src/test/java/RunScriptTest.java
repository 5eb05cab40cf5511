import java.util.List;

/** Runs .ci/run in a small project of its own, where all is well, and where one thing fails. */
public final class RunScriptTest {
    private static final String OWN = "main/src/test/java/OneTest.java";
    private static final String SHARED = "shared/tests/Runs.java";
    private static final Check C = new Check();

    public static void main(String[] args) throws Exception {
        try (Workshop project = new Workshop()) {
            project.copy(".ci/run", "main/.ci/run");
            project.write("main/src/main/java/Filterbench.java", "public final class Filterbench { }");
            project.write(OWN, endsWith("OneTest", 0));
            project.write("main/src/test/java/TwoTest.java", endsWith("TwoTest", 0));
            project.write(SHARED, endsWith("Runs", 0));
            project.write("shared/tests/MoreRuns.java", endsWith("MoreRuns", 0));
            due(project, "all is well", true, "passed: OneTest", "passed: TwoTest", "passed: MoreRuns", "passed: Runs",
                "all tests passed");
            project.write(OWN, endsWith("OneTest", 1));
            due(project, "a test of the project fails", false, "FAILED: OneTest", "passed: TwoTest", "passed: MoreRuns",
                "passed: Runs");
            project.write(OWN, endsWith("OneTest", 0));
            project.write(SHARED, endsWith("Runs", 1));
            due(project, "a shared test fails", false, "passed: OneTest", "passed: TwoTest", "passed: MoreRuns",
                "FAILED: Runs");
            project.delete(SHARED);
            project.delete("shared/tests/MoreRuns.java");
            due(project, "no shared test", false, "passed: OneTest", "passed: TwoTest",
                "FAILED: no test under ../shared/tests");
            project.write(SHARED, "no program");
            dueFailed(project, "a shared test does not compile");
            project.write(SHARED, endsWith("Runs", 0));
            project.write(OWN, "no program");
            dueFailed(project, "a test of the project does not compile");
            project.write(OWN, endsWith("OneTest", 0));
            project.write("main/src/main/java/Filterbench.java", "no program");
            dueFailed(project, "the class does not compile");
        }
        C.end();
    }

    private static String endsWith(String name, int exit) {
        return "public final class " + name + " { public static void main(String[] args) { new Filterbench();"
            + " System.exit(" + exit + "); } }";
    }

    private static void due(Workshop project, String what, boolean isWell, String... lines) throws Exception {
        Workshop.Outcome outcome = project.run("sh", "main/.ci/run");
        C.due(what + ": exit code 0", isWell, () -> outcome.exit() == 0);
        C.due(what, List.of(lines), outcome::lines);
    }

    private static void dueFailed(Workshop project, String what) throws Exception {
        Workshop.Outcome outcome = project.run("sh", "main/.ci/run");
        C.due(what + ": exit code 0", false, () -> outcome.exit() == 0);
    }
}
