import java.lang.reflect.InvocationTargetException;
import java.lang.reflect.Method;
import java.util.ArrayList;
import java.util.Arrays;
import java.util.Collections;
import java.util.List;
import java.util.Random;

/** Random runs of calls, each answered by the class and by the Model alike (all promises). */
public final class ModelTest {
    private static final int RUNS = 600;
    private static final int CALLS = 512;

    /** For each call its arguments' ranges: pairs of the least and the greatest that are right. */
    private static int[] rangesOf(String name) {
        return switch (name) {
            case "chair" -> new int[] {0, 69, 0, 255};
            case "ofChair" -> new int[] {0, 5, 0, 5};
            case "stuff" -> new int[] {0, 5, 0, 1, 0, 255};
            case "become" -> new int[] {0, 5, 0, 69};
            case "as" -> new int[] {0, 5, 0, 6};
            case "member" -> new int[] {0, 7};
            case "ofMember" -> new int[] {0, 5, 0, 2};
            case "change" -> new int[] {0, 5, 0, 1, 0, 99};
            case "sit" -> new int[] {0, 5, -1, 5};
            case "feed" -> new int[] {0, 0, 1, 8};
            case "text" -> new int[] {0, 1};
            case "law" -> new int[] {0, 1, -5, 12, -5, 12, -5, 120};
            case "vote" -> new int[] {0, 7, 0, 2};
            case "says" -> new int[] {0, 5, 0, 7};
            case "sittings" -> new int[] {1, 60};
            case "loose" -> new int[] {1, 40};
            case "then" -> new int[] {0, 60, -1, 5};
            case "when", "turning", "moves" -> new int[] {0, 7};
            case "power" -> new int[] {0, 5};
            case "fits" -> new int[] {0, 3, 0, 1};
            case "parts" -> new int[] {0, 1};
            case "faster" -> new int[] {0, 5, 0, 5};
            case "seed" -> new int[] {-99, 99};
            case "voice" -> new int[] {0, 5, 0, 3, -20, 20};
            case "trace" -> new int[] {0, 9};
            case "sheet" -> new int[] {0, 3, 8, 16, 0, 9};
            case "put" -> new int[] {0, 3, 0, 8, -3, 99};
            case "move" -> new int[] {0, 3, 0, 5, 0, 3, 0, 5, 0, 5};
            case "speeds", "judge" -> new int[] {0, 3};
            case "tell" -> new int[] {0, 255};
            case "count" -> new int[] {0, 9};
            case "told" -> new int[] {1, 5};
            default -> new int[] {};
        };
    }

    private static int number(Random r, int least, int most) {
        int which = r.nextInt(60);
        if (which == 0) {
            return least - 1;
        }
        if (which == 1) {
            return most + 1;
        }
        if (which == 2) {
            return new int[] {Integer.MIN_VALUE, Integer.MAX_VALUE, -1, 0, r.nextInt()}[r.nextInt(5)];
        }
        return least + r.nextInt(most - least + 1);
    }

    private static Object[] arguments(Random r, Method m) {
        int[] ranges = rangesOf(m.getName());
        Object[] all = new Object[m.getParameterCount()];
        for (int i = 0; i < all.length; i++) {
            all[i] = number(r, ranges[2 * i], ranges[2 * i + 1]);
        }
        if (m.getName().equals("feed")) {
            all[0] = r.nextLong();
        }
        if (m.getName().equals("sheet") && r.nextInt(10) > 0) {
            all[1] = new int[] {0, 8, 8, 16, 32}[r.nextInt(5)];
            all[2] = r.nextInt(8) == 0 ? r.nextInt(50) - 3 : all[2];
        }
        return all;
    }

    private static String randomText(Random r, String names, int depth) {
        StringBuilder text = new StringBuilder();
        int parts = 1 + r.nextInt(depth == 0 ? 4 : 2);
        for (int i = 0; i < parts; i++) {
            if (i > 0) {
                text.append("|&<=>+-*/%".charAt(r.nextInt(10)));
            }
            int which = r.nextInt(10);
            if (which < 2 && depth < 6) {
                text.append('(').append(randomText(r, names, depth + 1)).append(')');
            } else if (which == 2 && depth < 6) {
                text.append('!').append(randomText(r, names, depth + 1));
            } else if (which < 6) {
                text.append(r.nextInt(r.nextInt(9) == 0 ? 20000 : 30));
            } else {
                text.append(names.charAt(r.nextInt(3)));
            }
        }
        return text.toString();
    }

    /** Now and then one byte is another, or lacks. */
    private static String spoilt(Random r, String text) {
        if (r.nextInt(3) > 0 || text.isEmpty()) {
            return text;
        }
        int i = r.nextInt(text.length());
        String in = r.nextBoolean() ? "" : "" + "kcshnv0!()|&<=>+-*/% ".charAt(r.nextInt(21));
        return text.substring(0, i) + in + text.substring(i + 1);
    }

    private final ChairViews it = new ChairViews();
    private final Model model = new Model();
    private final List<String> done = new ArrayList<>();
    private int wrong;

    private void call(Method m, Object... arguments) throws Exception {
        Method same = Model.class.getMethod(m.getName(), m.getParameterTypes());
        Object due = same.invoke(model, arguments);
        String said = m.getName() + Arrays.toString(arguments);
        try {
            Object got = m.invoke(it, arguments);
            if (!got.equals(due)) {
                wrong++;
                said += " answered " + got + ", due is " + due;
            }
        } catch (InvocationTargetException thrown) {
            wrong++;
            said += " threw " + thrown.getCause();
        }
        done.add(said + " = " + due);
    }

    private void feedText(Random r, Method feed, Method text) throws Exception {
        int use = r.nextInt(2);
        String bytes = spoilt(r, randomText(r, use == 0 ? "kcs" : "hnv", 0));
        for (int i = 0; i < bytes.length(); i += 8) {
            int n = Math.min(8, bytes.length() - i);
            long word = r.nextInt(256);
            for (int j = n - 1; j >= 0; j--) {
                word = word << 8 | bytes.charAt(i + j);
            }
            call(feed, word, n);
        }
        call(text, use);
    }

    /** Random runs seldom come near the end of SITTING, so some go straight there. */
    private void sitNearly(Random r, Method sittings) throws Exception {
        for (int i = 0; i < 166; i++) {
            call(sittings, 60);
        }
        call(sittings, 1 + r.nextInt(38));
    }

    private int play(long seed, List<Method> methods, Method feed, Method text, Method sittings) throws Exception {
        Random r = new Random(seed);
        List<Method> setting = new ArrayList<>();
        for (Method m : methods) {
            if (List.of("chair", "member", "change", "stuff", "run").contains(m.getName())) {
                setting.add(m);
            }
        }
        if (seed % 25 == 0) {
            sitNearly(r, sittings);
        }
        boolean early = true;
        for (int i = done.size(); i < CALLS && wrong == 0; i = done.size()) {
            early = early && i < 30;
            if (r.nextInt(20) == 0 && i < CALLS - 10) {
                feedText(r, feed, text);
            } else {
                List<Method> from = early ? setting : methods;
                Method m = from.get(r.nextInt(from.size()));
                call(m, arguments(r, m));
            }
        }
        if (wrong > 0) {
            System.out.println("run of seed " + seed + ":\n  " + String.join("\n  ", done));
        }
        return wrong;
    }

    public static void main(String[] args) throws Exception {
        List<Method> methods = new ArrayList<>();
        for (Method m : ChairViews.class.getMethods()) {
            if (m.getDeclaringClass() == ChairViews.class) {
                methods.add(m);
            }
        }
        methods.sort((a, b) -> a.getName().compareTo(b.getName()));
        Collections.rotate(methods, 3);
        Method feed = ChairViews.class.getMethod("feed", long.class, int.class);
        Method text = ChairViews.class.getMethod("text", int.class);
        Method sittings = ChairViews.class.getMethod("sittings", int.class);
        int runs = args.length > 0 ? Integer.parseInt(args[0]) : RUNS;
        int wrong = methods.size() == 40 ? 0 : 1;
        for (int i = 0; i < runs && wrong == 0; i++) {
            wrong += new ModelTest().play(i, methods, feed, text, sittings);
        }
        System.out.println(runs + " random runs: " + (wrong == 0 ? "all as the model" : "not as the model"));
        if (wrong != 0) {
            System.exit(1);
        }
    }
}
