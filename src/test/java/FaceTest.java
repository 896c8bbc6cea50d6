import java.nio.charset.StandardCharsets;
import java.nio.file.Files;
import java.nio.file.Path;
import java.util.ArrayList;
import java.util.List;
import java.util.Map;
import java.util.TreeMap;
import java.util.regex.Matcher;
import java.util.regex.Pattern;

/** That the class has the document's public face to the letter, under the sections that it names. */
public final class FaceTest {
    private static final Due DUE = new Due();
    private static final String IN_CLASS = "    ";
    private static final Pattern SECTION =
        Pattern.compile("Ahead of the calls (.*) the interface says: (---- .*)\\.");
    private static final Pattern NAME = Pattern.compile("`(\\w+)`");
    private static final Pattern PROMISE = Pattern.compile("## Promise (\\d+): (.*)");
    private static final Pattern PROMISED = Pattern.compile("`(.*?)`: .*");
    private static final Pattern CALL = Pattern.compile(" {4}public int (\\w+)\\(.*");

    /** What stands between the document's head of that part and the next, within its block. */
    private static List<String> faceOf(List<String> document) {
        List<String> face = new ArrayList<>();
        boolean inPart = false;
        boolean inBlock = false;
        for (String line : document) {
            inPart = line.startsWith("## ") ? line.equals("## The public face") : inPart;
            if (line.startsWith("```")) {
                inBlock = inPart && line.equals("```java");
            } else if (inBlock) {
                face.add(line.replace(";", ""));
            }
        }
        return face;
    }

    private static List<String> declared(List<String> source) {
        List<String> face = new ArrayList<>();
        for (String line : source) {
            if (line.startsWith("public ")) {
                face.add(line);
            } else if (line.startsWith(IN_CLASS + "public ")) {
                face.add(line.replaceAll(" \\{$", ""));
            }
        }
        face.add("}");
        return face;
    }

    private static Map<String, String> sectionsOf(List<String> document) {
        Map<String, String> sections = new TreeMap<>();
        for (String line : document) {
            Matcher said = SECTION.matcher(line);
            if (said.matches()) {
                Matcher name = NAME.matcher(said.group(1));
                while (name.find()) {
                    sections.put(name.group(1), said.group(2));
                }
            }
        }
        return sections;
    }

    private static Map<String, String> sectionsIn(List<String> source) {
        Map<String, String> sections = new TreeMap<>();
        String section = "";
        for (String line : source) {
            section = line.startsWith(IN_CLASS + "// ---- ") ? line.substring(IN_CLASS.length() + 3) : section;
            Matcher call = CALL.matcher(line);
            if (call.matches()) {
                sections.put(call.group(1), section);
            }
        }
        return sections;
    }

    /** Each promise tells of the next call of the face, by its name and in its words. */
    private static void promises(List<String> document, List<String> face) {
        int promises = 0;
        for (String line : document) {
            Matcher head = PROMISE.matcher(line);
            Matcher words = PROMISED.matcher(line);
            if (head.matches()) {
                promises++;
                DUE.is("the number of " + line, Integer.parseInt(head.group(1)), promises);
            } else if (promises > 0 && words.matches()) {
                DUE.same("promise " + promises, IN_CLASS + "public " + words.group(1), face.get(promises));
            }
        }
        DUE.is("promises", promises, 41);
    }

    public static void main(String[] args) throws Exception {
        List<String> document = Files.readAllLines(Path.of("../shared/DOC.md"), StandardCharsets.UTF_8);
        List<String> source = Files.readAllLines(Path.of("src/main/java/ChairViews.java"), StandardCharsets.UTF_8);
        DUE.is("calls, the constructor, the class, its end", faceOf(document).size(), 43);
        DUE.same("the face", String.join("\n  ", declared(source)), String.join("\n  ", faceOf(document)));
        promises(document, declared(source));
        DUE.is("calls with a section", sectionsOf(document).size(), 40);
        DUE.same("the sections", sectionsIn(source).toString(), sectionsOf(document).toString());
        DUE.end();
    }
}
