import java.lang.reflect.Method;
import java.lang.reflect.Modifier;
import java.nio.charset.StandardCharsets;
import java.nio.file.Files;
import java.nio.file.Path;
import java.util.ArrayList;
import java.util.List;
import java.util.Set;
import java.util.TreeSet;
import java.util.regex.Matcher;
import java.util.regex.Pattern;
import java.util.stream.Stream;

/** That what README.md shows compiles and answers as it says, and that the commands it names work. */
public final class ReadmeTest {
    private static final Due DUE = new Due();
    private static final String TESTS = "src/test/java/";
    private static final String MADE = "ChairViews x = new ChairViews();";
    /** A call, perhaps one whose answer gets a name, what it answers, and why. */
    private static final Pattern SHOWN = Pattern.compile("(?:int (\\w+) = )?(x\\.(\\w+)\\(.*\\)); +// (-?\\d+): \\S.*");
    private static final Pattern ERROR = Pattern.compile("\\| `([A-Z]+)` \\| (-\\d+) \\| `told\\((\\d)\\)` \\|");
    private static final Pattern NAMED_TEST = Pattern.compile("\\| `(\\w+Test)` \\| \\S.* \\|");

    private static List<List<String>> blocks(List<String> page, String language) {
        List<List<String>> blocks = new ArrayList<>();
        boolean inside = false;
        for (String line : page) {
            if (line.startsWith("```")) {
                inside = line.equals("```" + language);
                if (inside) {
                    blocks.add(new ArrayList<>());
                }
            } else if (inside) {
                blocks.get(blocks.size() - 1).add(line);
            }
        }
        return blocks;
    }

    /** A line as a statement that prints the call if its answer isn't the one that is shown. */
    private static String asked(String line, Matcher shown) {
        String name = shown.group(1) == null ? "unnamed" : shown.group(1);
        String words = line.replace("\\", "\\\\").replace("\"", "\\\"");
        String held = "due(\"" + words + "\", " + name + ", " + shown.group(4) + ");";
        String call = "int " + name + " = " + shown.group(2) + "; " + held;
        return shown.group(1) == null ? "{ " + call + " }" : call;
    }

    private static String program(List<List<String>> blocks, Set<String> calls) {
        StringBuilder text = new StringBuilder("public final class Shown {\n    private static int wrong;\n\n"
            + "    private static void due(String line, int got, int want) {\n"
            + "        if (got != want) {\n            wrong++;\n"
            + "            System.out.println(line + \" answered \" + got);\n        }\n    }\n\n"
            + "    public static void main(String[] args) {\n");
        for (List<String> block : blocks) {
            for (String line : block) {
                Matcher shown = SHOWN.matcher(line);
                boolean asks = shown.matches();
                DUE.is("a call with its answer: " + line, asks || line.equals(MADE) ? 1 : 0, 1);
                text.append("        ").append(asks ? asked(line, shown) : line).append('\n');
                if (asks) {
                    calls.add(shown.group(3));
                }
            }
        }
        return text.append("        System.exit(wrong == 0 ? 0 : 1);\n    }\n}\n").toString();
    }

    private static Set<String> face() {
        Set<String> names = new TreeSet<>();
        for (Method call : ChairViews.class.getDeclaredMethods()) {
            if (Modifier.isPublic(call.getModifiers())) {
                names.add(call.getName());
            }
        }
        return names;
    }

    private static void use(List<String> page) throws Exception {
        Set<String> calls = new TreeSet<>();
        String program = program(blocks(page, "java"), calls);
        DUE.same("every call is shown", calls.toString(), face().toString());
        try (Project project = new Project().with(Project.CLASS).write("Shown.java", program)) {
            Project.Ended ended = project.run("javac -d out " + Project.CLASS + " Shown.java\njava -cp out Shown");
            DUE.same("what isn't as shown", ended.printed(), "");
            DUE.is("how it ends", ended.code(), 0);
        }
    }

    private static void errors(List<String> page) {
        StringBuilder named = new StringBuilder();
        for (String line : page) {
            Matcher error = ERROR.matcher(line);
            if (error.matches()) {
                int k = Integer.parseInt(error.group(3));
                DUE.is("the number of " + error.group(1), Integer.parseInt(error.group(2)), Due.LOW - k);
                named.append(error.group(1)).append(' ');
            }
        }
        DUE.same("the ERRORS", named.toString(), "BEYOND NONE STATE FULL KIND ");
    }

    private static String commands(List<String> block) {
        return String.join("\n", block);
    }

    /** The one way to run them all, on fewer tests than there are here (this one isn't among them). */
    private static void allTests(List<String> block) throws Exception {
        try (Project project = new Project().withShared().with(".ci", Project.CLASS, TESTS + "Due.java",
                TESTS + "Probe.java", TESTS + "ChairsMembersTest.java", TESTS + "TextsTest.java")) {
            Project.Ended ended = project.run(commands(block));
            long shared;
            try (Stream<Path> files = Files.list(project.shared)) {
                shared = files.filter(file -> file.toString().endsWith(".java")).count();
            }
            DUE.is("how " + block + " ends", ended.code(), 0);
            DUE.same("its last line", ended.lastLine(), 2 + shared + " passed, 0 failed");
            String source = Files.readString(project.root.resolve(Project.CLASS), StandardCharsets.UTF_8);
            project.write(Project.CLASS, source.replace("FIRST_SPEED = 10", "FIRST_SPEED = 11"));
            DUE.is("how it ends with a fault in the class", project.run(commands(block)).code(), 1);
        }
    }

    private static void oneTest(List<String> block) throws Exception {
        try (Project project = new Project().withShared().with("src")) {
            Project.Ended ended = project.run(commands(block));
            DUE.is("how " + block + " ends", ended.code(), 0);
            DUE.same("its last line", ended.lastLine(), "100 random runs: all as the model");
        }
    }

    private static void tests(List<String> page) throws Exception {
        Set<String> named = new TreeSet<>();
        for (String line : page) {
            Matcher test = NAMED_TEST.matcher(line);
            if (test.matches()) {
                named.add(test.group(1));
            }
        }
        Set<String> there = new TreeSet<>();
        try (Stream<Path> files = Files.list(Path.of(TESTS))) {
            files.map(file -> file.getFileName().toString()).filter(name -> name.endsWith("Test.java"))
                .forEach(name -> there.add(name.replace(".java", "")));
        }
        DUE.same("the tests", named.toString(), there.toString());
        List<List<String>> commands = blocks(page, "sh");
        DUE.is("blocks of commands", commands.size(), 2);
        DUE.same("the way to run them all", commands(commands.get(0)), ".ci/run");
        allTests(commands.get(0));
        oneTest(commands.get(1));
    }

    public static void main(String[] args) throws Exception {
        List<String> page = Files.readAllLines(Path.of("README.md"), StandardCharsets.UTF_8);
        use(page);
        errors(page);
        tests(page);
        DUE.end();
    }
}
