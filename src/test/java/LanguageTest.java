import java.lang.reflect.Constructor;
import java.lang.reflect.Field;
import java.lang.reflect.Method;
import java.lang.reflect.Modifier;
import java.nio.charset.StandardCharsets;
import java.nio.file.Files;
import java.nio.file.Path;
import java.util.Set;
import java.util.TreeSet;
import java.util.regex.Matcher;
import java.util.regex.Pattern;

/** The rules of LANGUAGE.md that can be seen without thinking: the face, words, sizes. */
public final class LanguageTest {
    private static final Due DUE = new Due();

    private static final String FACE = "as(II) become(II) chair(II) change(III) check() count(I) faster(II) feed(JI) "
        + "fits(II) image() judge(I) law(IIII) loose(I) member(I) move(IIIII) moves(I) ofChair(II) ofMember(II) parts(I) "
        + "power(I) put(III) restore() run() says(II) seatless() seed(I) sheet(III) sit(II) sittings(I) speeds(I) "
        + "stuff(III) tell(I) text(I) then(II) told(I) trace(I) turning(I) voice(III) vote(II) when(I)";

    private static String signature(Method m) {
        StringBuilder s = new StringBuilder(m.getName()).append('(');
        for (Class<?> type : m.getParameterTypes()) {
            s.append(type == int.class ? "I" : type == long.class ? "J" : "?");
        }
        return s.append(')').toString();
    }

    private static void face() {
        Class<?> it = ChairViews.class;
        Set<String> open = new TreeSet<>();
        Set<String> names = new TreeSet<>();
        for (Method m : it.getDeclaredMethods()) {
            if (!Modifier.isPrivate(m.getModifiers())) {
                open.add(signature(m));
                names.add(m.getName());
                DUE.is("rule 1: " + m + " is public and of the object", m.getModifiers(), Modifier.PUBLIC);
                DUE.is("rule 1: " + m + " answers an int", m.getReturnType() == int.class ? 1 : 0, 1);
            }
        }
        DUE.is("rule 1: the face " + open, String.join(" ", open).equals(FACE) ? 1 : 0, 1);
        for (Method m : it.getDeclaredMethods()) {
            if (Modifier.isPrivate(m.getModifiers())) {
                DUE.is("rule 1: the name of " + m, names.contains(m.getName()) ? 1 : 0, 0);
            }
        }
        for (Field f : it.getDeclaredFields()) {
            DUE.is("rule 1: " + f + " is private", Modifier.isPrivate(f.getModifiers()) ? 1 : 0, 1);
        }
        DUE.is("rule 1: the class", it.getModifiers(), Modifier.PUBLIC | Modifier.FINAL);
        DUE.is("rule 1: constructors", it.getDeclaredConstructors().length, 1);
        Constructor<?> made = it.getDeclaredConstructors()[0];
        DUE.is("rule 1: the constructor", made.getModifiers() + made.getParameterCount(), Modifier.PUBLIC);
    }

    private static void sizesOf(Class<?> c) {
        int fields = 0;
        for (Field f : c.getDeclaredFields()) {
            if (Modifier.isStatic(f.getModifiers())) {
                DUE.is("rule 5: " + f + " is final", Modifier.isFinal(f.getModifiers()) ? 1 : 0, 1);
            } else {
                fields++;
            }
        }
        DUE.is("rule 11: fields of " + c, Math.max(fields, 20), 20);
        for (Method m : c.getDeclaredMethods()) {
            DUE.is("rule 11: parameters of " + m, Math.max(m.getParameterCount(), 7), 7);
        }
    }

    private static void classes() {
        Class<?>[] inside = ChairViews.class.getDeclaredClasses();
        DUE.is("rule 11: classes", Math.max(inside.length + 1, 12), 12);
        sizesOf(ChairViews.class);
        for (Class<?> c : inside) {
            int modifiers = c.getModifiers();
            DUE.is("rule 2: " + c + " is static", Modifier.isStatic(modifiers) ? 1 : 0, 1);
            DUE.is("rule 1: " + c + " isn't public", modifiers & (Modifier.PUBLIC | Modifier.PROTECTED), 0);
            sizesOf(c);
        }
    }

    private static String withoutComments(String source) {
        return source.replaceAll("(?s)/\\*.*?\\*/", "").replaceAll("//[^\n]*", "");
    }

    private static void words(String source) {
        String code = withoutComments(source);
        String[] refused = {
            "\\bthrow\\b", "\\btry\\b", "\\bcatch\\b", "\\bsynchronized\\b", "\\bassert\\b", "->", "::", "Exact\\(",
            "\\bpackage\\b", "\\bdouble\\b", "\\bfloat\\b", "System\\.(?!arraycopy)", "\\bthrows\\b", "\\bprotected\\b",
            "\\btoString\\b", "\\bhashCode\\b", "\\bRandom\\b", "\\bThread\\b", "\\bimport (?!java\\.util\\.Arrays;)"};
        for (String word : refused) {
            Matcher m = Pattern.compile(word).matcher(code);
            DUE.is("rules 4, 6, 13: " + word, m.find() ? 1 : 0, 0);
        }
    }

    /** By their indents: a method begins and ends with the same one. */
    private static void lengths(String source) {
        String[] lines = source.split("\n");
        int began = -1;
        String indent = "";
        for (int i = 0; i < lines.length; i++) {
            boolean head = lines[i].matches("( {4}| {8})[\\w\\[\\] ]+\\(.*\\) \\{");
            if (began < 0 && head) {
                began = i;
                indent = lines[i].replaceAll("\\S.*", "");
            } else if (began >= 0 && lines[i].equals(indent + "}")) {
                DUE.is("rule 11: " + lines[began].trim(), Math.max(i - began + 1, 60), 60);
                began = -1;
            }
        }
    }

    public static void main(String[] args) throws Exception {
        Path file = Path.of("src/main/java/ChairViews.java");
        String source = Files.readString(file, StandardCharsets.US_ASCII);
        face();
        classes();
        words(source);
        lengths(source);
        DUE.end();
    }
}
