import java.nio.charset.StandardCharsets;
import java.nio.file.Files;
import java.nio.file.Path;
import java.util.LinkedHashMap;
import java.util.List;
import java.util.Map;
import java.util.regex.Matcher;
import java.util.regex.Pattern;

/**
 * That the tests quote the document as it stands, and that no sentence of it is without a test (its
 * public face has FaceTest). What fails here is a document that has changed: read it there again.
 */
public final class QuotesTest {
    private static final Due DUE = new Due();
    private static final Pattern ITEM = Pattern.compile("(\\d)\\. .*");
    /** What the document leaves free, so that there is nothing to test. */
    private static final String FREE = "How the state is held inside the object is free, as are the speed of each call, "
        + "the text of toString and the behaviour of equals and hashCode. Use of one object from several threads at once "
        + "is not promised to be safe. Nothing is promised beyond the answers and state changes described above, "
        + "and nothing about an object after its 512th call.";

    private static List<Sentences> all() {
        return List.of(WholeTest.sentences(), ChairEdgesTest.sentences(), TextEdgesTest.sentences(),
            VoteEdgesTest.sentences(), ThoughtEdgesTest.sentences(), DrawEdgesTest.sentences(),
            SheetEdgesTest.sentences(), ToldEdgesTest.sentences());
    }

    private static String partOf(String line, String part) {
        if (line.startsWith("## ")) {
            return line.substring(3).replaceAll(":.*", "");
        }
        Matcher item = ITEM.matcher(line);
        return part.startsWith("Terms") && item.matches() ? "Terms " + item.group(1) : part;
    }

    /** The parts of the document by their names, without what is only its form. */
    private static Map<String, String> parts(List<String> document) {
        Map<String, String> parts = new LinkedHashMap<>();
        String part = "";
        for (String line : document) {
            part = partOf(line, part);
            boolean form = line.startsWith("#") || line.startsWith("```") || line.startsWith("Ahead of the calls");
            String words = form ? "" : line.replaceAll("^\\d\\. |^`[^`]*`: ", "").trim();
            parts.merge(part, words, (before, more) -> (before + " " + more).trim());
        }
        return parts;
    }

    public static void main(String[] args) throws Exception {
        Map<String, String> parts = parts(Files.readAllLines(Path.of("../shared/DOC.md"), StandardCharsets.UTF_8));
        Map<String, String> left = new LinkedHashMap<>(parts);
        for (Sentences some : all()) {
            for (Sentences.Sentence sentence : some.all) {
                String where = parts.getOrDefault(sentence.place(), "");
                DUE.is(sentence.place() + " has \"" + sentence.words() + "\"", where.contains(sentence.words()) ? 1 : 0, 1);
                left.computeIfPresent(sentence.place(), (part, words) -> words.replace(sentence.words(), " "));
            }
        }
        left.remove("The public face");
        DUE.same("what is free", left.remove("Not promised"), FREE);
        for (Map.Entry<String, String> part : left.entrySet()) {
            DUE.same(part.getKey() + ", what no test quotes", part.getValue().trim(), "");
        }
        DUE.is("promises", left.keySet().stream().filter(part -> part.startsWith("Promise ")).count(), 41);
        DUE.end();
    }
}
