import java.nio.file.Files;
import java.nio.file.Path;
import java.util.ArrayList;
import java.util.List;
import java.util.concurrent.Callable;
import java.util.concurrent.ExecutorService;
import java.util.concurrent.Executors;
import java.util.concurrent.Future;

/** That .ci/run passes what is right, and refuses what isn't: tried on small projects of their own. */
public final class RunTest {
    private static final Due DUE = new Due();
    private static final String RUN = ".ci/run";
    private static final String OWN = "src/test/java/OneTest.java";
    private static final String UNENDED = "public final class {";
    private static final int AT_ONCE = 4;

    /** How a project's run must end; they are run at once, for each takes its seconds. */
    record Case(String what, Project project, boolean passes, String lastLine) { }

    private static final List<Case> CASES = new ArrayList<>();

    private static void passes(String what, Project project, String lastLine) {
        CASES.add(new Case(what, project, true, lastLine));
    }

    private static void fails(String what, Project project, String lastLine) {
        CASES.add(new Case(what, project, false, lastLine));
    }

    private static String test(String name, String body) {
        return "public final class " + name + " { public static void main(String[] args) { " + body + " } }\n";
    }

    /** A test that asks the class, and ends with an exit code. */
    private static String ending(String name, int code) {
        return test(name, "System.exit(new ChairViews().count(0) + " + code + ");");
    }

    /** The class, a test of its own and a shared one, both of which pass. */
    private static Project small() throws Exception {
        return new Project().with(RUN, Project.CLASS).write(OWN, ending("OneTest", 0)).share("Two.java", ending("Two", 0));
    }

    private static void right() throws Exception {
        passes("all is right", small(), "2 passed, 0 failed");
        passes("one more of each", small().write("src/test/java/MoreTest.java", ending("MoreTest", 0))
            .share("More.java", ending("More", 0)), "4 passed, 0 failed");
        passes("what isn't named a test isn't run", small().write("src/test/java/Help.java", ending("Help", 1)),
            "2 passed, 0 failed");
        passes("a shared test that javac warns of", small().share("Two.java",
            test("Two", "java.util.List raw = new java.util.ArrayList(); raw.add(1);")), "2 passed, 0 failed");
    }

    private static void wrong() throws Exception {
        fails("a test of its own fails", small().write(OWN, ending("OneTest", 1)), "1 passed, 1 failed");
        fails("a test of its own throws", small().write(OWN, test("OneTest", "System.out.println(args[0]);")),
            "1 passed, 1 failed");
        fails("a test of its own doesn't compile", small().write(OWN, UNENDED), "1 passed, 1 failed");
        fails("a shared test fails", small().share("Two.java", ending("Two", 1)), "1 passed, 1 failed");
        fails("one of two shared tests fails", small().share("Three.java", ending("Three", 3)), "2 passed, 1 failed");
        fails("a shared test doesn't compile", small().share("Two.java", UNENDED), "1 passed, 1 failed");
        fails("the class doesn't compile", small().write(Project.CLASS, UNENDED), "0 passed, 2 failed");
    }

    private static void lacking() throws Exception {
        Project noShared = small();
        Files.delete(noShared.shared.resolve("Two.java"));
        fails("there are no shared tests", noShared, "1 passed, 1 failed");
        Project noOwn = small();
        Files.delete(noOwn.root.resolve(OWN));
        fails("there are no tests of its own", noOwn, "1 passed, 1 failed");
    }

    private static void judgeAll() throws Exception {
        ExecutorService several = Executors.newFixedThreadPool(AT_ONCE);
        List<Callable<Project.Ended>> runs = new ArrayList<>();
        for (Case one : CASES) {
            runs.add(() -> {
                try (Project project = one.project) {
                    return project.run(RUN);
                }
            });
        }
        List<Future<Project.Ended>> ended = several.invokeAll(runs);
        several.shutdown();
        for (int i = 0; i < CASES.size(); i++) {
            Case one = CASES.get(i);
            DUE.is(one.what + ": it passes", ended.get(i).get().code() == 0 ? 1 : 0, one.passes ? 1 : 0);
            DUE.same(one.what + ": its last line", ended.get(i).get().lastLine(), one.lastLine);
        }
    }

    private static void fromAnywhere() throws Exception {
        try (Project project = small()) {
            Project.Ended ended = project.run(project.shared, "../../project/" + RUN);
            DUE.is("from another directory", ended.code(), 0);
            DUE.same("from another directory, its last line", ended.lastLine(), "2 passed, 0 failed");
            DUE.same("it leaves nothing behind", String.join(" ", project.run("ls -A . src/*/java").printed().split("\\s+")),
                ".: .ci src src/main/java: ChairViews.java src/test/java: OneTest.java");
        }
    }

    public static void main(String[] args) throws Exception {
        DUE.is("it can be run", Files.isExecutable(Path.of(RUN)) ? 1 : 0, 1);
        right();
        wrong();
        lacking();
        judgeAll();
        fromAnywhere();
        DUE.end();
    }
}
