import java.util.ArrayList;
import java.util.Arrays;
import java.util.HashSet;
import java.util.List;
import java.util.Set;

/**
 * The document once more, in another way: objects that are copied for every thought, texts that
 * are worked out from their bytes, moves that are tried one by one. Slow, and only a measure.
 */
final class Model {
    static final class Seat {
        int kind;
        int m;
        int views;
        int cushion;

        Seat copy() {
            Seat s = new Seat();
            s.kind = kind;
            s.m = m;
            s.views = views;
            s.cushion = cushion;
            return s;
        }
    }

    static final class Person {
        int speed = 10;
        int hobby;
        int at = -1;

        Person copy() {
            Person p = new Person();
            p.speed = speed;
            p.hobby = hobby;
            p.at = at;
            return p;
        }
    }

    static final class World {
        List<Seat> seats = new ArrayList<>();
        List<Person> people = new ArrayList<>();
        String[] texts = {"1", "h*10-n"};
        String tape = "";
        List<Integer> waiting = new ArrayList<>();
        int laws;
        int sitting;
        int z = 1;

        World copy() {
            World w = new World();
            for (Seat s : seats) {
                w.seats.add(s.copy());
            }
            for (Person p : people) {
                w.people.add(p.copy());
            }
            w.texts = texts.clone();
            w.tape = tape;
            w.waiting = new ArrayList<>(waiting);
            w.laws = laws;
            w.sitting = sitting;
            w.z = z;
            return w;
        }

        Set<Integer> taken() {
            Set<Integer> set = new HashSet<>();
            for (Person p : people) {
                if (p.at >= 0) {
                    set.add(p.at);
                }
            }
            return set;
        }

        int asChair(int c, int bill) {
            boolean view = (seats.get(c).views & 1 << bill) != 0;
            boolean cushioned = (seats.get(c).cushion & 1 << bill) != 0;
            return view != cushioned ? 1 : -1;
        }

        int says(int c, int bill, Set<Integer> taken) {
            if (!taken.contains(c)) {
                return 0;
            }
            Seat s = seats.get(c);
            int repaired = Integer.bitCount(s.views) >= 4 ? 1 : asChair(c, bill);
            int next = (c + 1) % seats.size();
            return switch (s.kind) {
                case 0 -> asChair(c, bill);
                case 1 -> s.m == bill ? 0 : asChair(c, bill);
                case 2, 5 -> taken.contains(next) ? asChair(next, bill) : asChair(c, bill);
                case 3 -> repaired;
                case 4 -> 0;
                default -> -repaired;
            };
        }

        int weight(int c) {
            Seat s = seats.get(c);
            int w = give(texts, 0, Integer.bitCount(s.views), Integer.bitCount(s.cushion), sitting);
            return s.kind == 5 ? w + s.m / 3 : s.kind == 6 ? 2 * w : w;
        }

        int side(int bill, int side, Set<Integer> taken) {
            int sum = 0;
            for (int c = 0; c < seats.size(); c++) {
                if (says(c, bill, taken) == side) {
                    sum += weight(c);
                }
            }
            return sum;
        }

        int less(int bill, Set<Integer> taken) {
            return side(bill, 1, taken) - side(bill, -1, taken);
        }

        boolean passes(int bill) {
            return side(bill, 1, taken()) > side(bill, -1, taken());
        }

        void runAll() {
            List<Integer> order = new ArrayList<>();
            for (int i = 0; i < people.size(); i++) {
                people.get(i).at = -1;
                order.add(i);
            }
            order.sort((a, b) -> people.get(b).speed - people.get(a).speed);
            for (int i : order) {
                Person p = people.get(i);
                Set<Integer> taken = taken();
                int best = -1;
                int bestZeal = Integer.MIN_VALUE;
                for (int c = 0; c < seats.size(); c++) {
                    if (taken.contains(c)) {
                        continue;
                    }
                    int zeal = give(texts, 1, asChair(c, p.hobby) == 1 ? 1 : 0, c, p.speed);
                    if (zeal > bestZeal) {
                        best = c;
                        bestZeal = zeal;
                    }
                }
                p.at = best;
            }
        }

        void sitOnce() {
            runAll();
            int passed = 0;
            for (int b = 0; b < 8; b++) {
                passed += passes(b) ? 1 << b : 0;
            }
            laws = passed;
            for (int c : taken()) {
                Seat s = seats.get(c);
                s.cushion -= Integer.lowestOneBit(s.cushion);
            }
            sitting++;
        }

        World behind(int n) {
            World w = copy();
            for (int i = 0; i < n; i++) {
                w.sitOnce();
            }
            return w;
        }

        int draw() {
            z = z * 1103515245 + 12345;
            return z >>> 8;
        }
    }

    static int give(String[] texts, int use, int a, int b, int c) {
        int v = new Worker(texts[use], use == 0 ? "kcs" : "hnv", new int[] {a, b, c}).alternatives();
        return Math.max(use == 0 ? 0 : -99, Math.min(99, v));
    }

    /** Works out a text that is known to be right, from its bytes. */
    static final class Worker {
        final String text;
        final String names;
        final int[] values;
        int i;

        Worker(String text, String names, int[] values) {
            this.text = text;
            this.names = names;
            this.values = values;
        }

        boolean next(String signs) {
            return i < text.length() && signs.indexOf(text.charAt(i)) >= 0;
        }

        int alternatives() {
            int v = together();
            while (next("|")) {
                i++;
                int w = together();
                v = v != 0 || w != 0 ? 1 : 0;
            }
            return v;
        }

        int together() {
            int v = comparison();
            while (next("&")) {
                i++;
                int w = comparison();
                v = v != 0 && w != 0 ? 1 : 0;
            }
            return v;
        }

        int comparison() {
            int v = sum();
            if (next("<=>")) {
                char sign = text.charAt(i++);
                int w = sum();
                boolean holds = sign == '<' ? v < w : sign == '=' ? v == w : v > w;
                return holds ? 1 : 0;
            }
            return v;
        }

        int sum() {
            int v = product();
            while (next("+-")) {
                v = text.charAt(i++) == '+' ? v + product() : v - product();
            }
            return v;
        }

        int product() {
            int v = operand();
            while (next("*/%")) {
                char sign = text.charAt(i++);
                int w = operand();
                v = sign == '*' ? v * w : w == 0 ? 0 : sign == '/' ? v / w : v % w;
            }
            return v;
        }

        int operand() {
            if (next("!")) {
                i++;
                return operand() == 0 ? 1 : 0;
            }
            if (next("(")) {
                i++;
                int v = alternatives();
                i++;
                return v;
            }
            if (next(names)) {
                return values[names.indexOf(text.charAt(i++))];
            }
            int v = 0;
            while (next("0123456789")) {
                v = 10 * v + text.charAt(i++) - '0';
            }
            return v;
        }
    }

    /** -1, or the FAULT: byte for byte, with a pile of what is open, ! and ( and comparisons. */
    static int faultOf(String text, String names) {
        StringBuilder pile = new StringBuilder();
        boolean wanted = true;
        int digits = 0;
        for (int i = 0; i < text.length(); i++) {
            char c = text.charAt(i);
            boolean digit = c >= '0' && c <= '9';
            if (wanted) {
                if (c == '!' || c == '(') {
                    long open = pile.chars().filter(s -> s != '<').count();
                    if (open == 5) {
                        return i;
                    }
                    pile.append(c);
                } else if (digit || names.indexOf(c) >= 0) {
                    wanted = false;
                    digits = digit ? 1 : 9;
                    drop(pile, "!");
                } else {
                    return i;
                }
            } else if (digit && digits < 4) {
                digits++;
            } else if ("|&".indexOf(c) >= 0) {
                drop(pile, "<");
                wanted = true;
            } else if ("+-*/%".indexOf(c) >= 0) {
                wanted = true;
            } else if ("<=>".indexOf(c) >= 0 && !pile.toString().endsWith("<")) {
                pile.append('<');
                wanted = true;
            } else if (c == ')') {
                drop(pile, "<");
                if (pile.length() == 0) {
                    return i;
                }
                pile.setLength(pile.length() - 1);
                drop(pile, "!");
                digits = 9;
            } else {
                return i;
            }
        }
        drop(pile, "<");
        return wanted || pile.length() > 0 ? text.length() : -1;
    }

    private static void drop(StringBuilder pile, String what) {
        while (pile.toString().endsWith(what)) {
            pile.setLength(pile.length() - 1);
        }
    }

    private World world = new World();
    private World imageKept;
    private int images;
    private final int[] told = new int[6];
    private final List<Integer> traced = new ArrayList<>();
    private final int[][] rows = new int[4][];
    private final int[] bitsOf = new int[4];

    private int error(int k) {
        told[k]++;
        return -1000000000 - k;
    }

    private boolean noChair(int c) {
        return c < 0 || c >= world.seats.size();
    }

    private boolean noMember(int m) {
        return m < 0 || m >= world.people.size();
    }

    private static boolean out(int v, int least, int most) {
        return v < least || v > most;
    }

    private static Set<Integer> setOf(int bits) {
        Set<Integer> set = new HashSet<>();
        for (int i = 0; i < 32; i++) {
            if ((bits & 1 << i) != 0) {
                set.add(i);
            }
        }
        return set;
    }

    public int chair(int km, int views) {
        if (out(km, 0, 69) || out(views, 0, 255)) {
            return error(1);
        }
        if (world.seats.size() == 6) {
            return error(4);
        }
        Seat s = new Seat();
        s.kind = km / 10;
        s.m = km % 10;
        s.views = views;
        world.seats.add(s);
        return world.seats.size() - 1;
    }

    public int ofChair(int chair, int what) {
        if (noChair(chair) || out(what, 0, 5)) {
            return error(1);
        }
        Seat s = world.seats.get(chair);
        int who = -1;
        for (int i = 0; i < world.people.size(); i++) {
            who = world.people.get(i).at == chair ? i : who;
        }
        return new int[] {s.kind, s.m, s.views, s.cushion, who, world.weight(chair)}[what];
    }

    public int stuff(int chair, int what, int v) {
        if (noChair(chair) || out(what, 0, 1) || out(v, 0, 255)) {
            return error(1);
        }
        Seat s = world.seats.get(chair);
        int was = what == 0 ? s.views : s.cushion;
        if (what == 0) {
            s.views = v;
        } else {
            s.cushion = v;
        }
        return was;
    }

    public int become(int chair, int km) {
        if (noChair(chair) || out(km, 0, 69)) {
            return error(1);
        }
        Seat s = world.seats.get(chair);
        int was = s.kind;
        s.kind = km / 10;
        s.m = km % 10;
        return was;
    }

    public int as(int chair, int kind) {
        if (noChair(chair) || out(kind, 0, 6)) {
            return error(1);
        }
        int own = world.seats.get(chair).kind;
        boolean is = kind == 0 || own == kind || own == kind + 3;
        return is ? world.seats.get(chair).m : error(5);
    }

    public int member(int hobby) {
        if (out(hobby, 0, 7)) {
            return error(1);
        }
        if (world.people.size() == 6) {
            return error(4);
        }
        Person p = new Person();
        p.hobby = hobby;
        world.people.add(p);
        return world.people.size() - 1;
    }

    public int ofMember(int member, int what) {
        if (noMember(member) || out(what, 0, 2)) {
            return error(1);
        }
        Person p = world.people.get(member);
        return what == 0 ? p.speed : what == 1 ? p.hobby : p.at;
    }

    public int change(int member, int what, int v) {
        if (noMember(member) || out(what, 0, 1) || out(v, 0, what == 0 ? 99 : 7)) {
            return error(1);
        }
        Person p = world.people.get(member);
        int was = what == 0 ? p.speed : p.hobby;
        if (what == 0) {
            p.speed = v;
        } else {
            p.hobby = v;
        }
        return was;
    }

    public int sit(int member, int chair) {
        if (noMember(member) || chair != -1 && noChair(chair)) {
            return error(1);
        }
        Person p = world.people.get(member);
        for (Person q : world.people) {
            if (q != p && chair >= 0 && q.at == chair) {
                return error(3);
            }
        }
        int was = p.at;
        p.at = chair;
        return was;
    }

    public int feed(long word, int n) {
        if (out(n, 1, 8)) {
            return error(1);
        }
        if (world.tape.length() + n > 50) {
            return error(4);
        }
        for (int i = 0; i < n; i++) {
            world.tape += (char) (word & 255);
            word >>= 8;
        }
        return world.tape.length();
    }

    public int text(int use) {
        if (out(use, 0, 1)) {
            return error(1);
        }
        String t = world.tape;
        world.tape = "";
        int fault = faultOf(t, use == 0 ? "kcs" : "hnv");
        if (fault >= 0) {
            return -10 - fault;
        }
        world.texts[use] = t;
        return 1;
    }

    public int law(int use, int a, int b, int c) {
        return out(use, 0, 1) ? error(1) : give(world.texts, use, a, b, c);
    }

    public int vote(int bill, int what) {
        if (out(bill, 0, 7) || out(what, 0, 2)) {
            return error(1);
        }
        if (what == 2) {
            return world.passes(bill) ? 1 : 0;
        }
        return world.side(bill, what == 0 ? 1 : -1, world.taken());
    }

    public int says(int chair, int bill) {
        return noChair(chair) || out(bill, 0, 7) ? error(1) : world.says(chair, bill, world.taken()) + 1;
    }

    public int run() {
        world.runAll();
        return world.taken().size();
    }

    public int sittings(int n) {
        if (out(n, 1, 60)) {
            return error(1);
        }
        if (world.sitting + n > 9999) {
            return error(3);
        }
        world = world.behind(n);
        return world.laws;
    }

    public int loose(int n) {
        if (out(n, 1, 40)) {
            return error(1);
        }
        if (world.sitting + n > 9999) {
            return error(3);
        }
        for (int i = 0; i < n; i++) {
            if (!world.people.isEmpty()) {
                int first = world.draw();
                int second = world.draw();
                world.people.get(first % world.people.size()).speed = second % 100;
            }
            world.sitOnce();
        }
        return world.laws;
    }

    public int then(int n, int what) {
        if (out(n, 0, 60) || what != -1 && noMember(what)) {
            return error(1);
        }
        World w = world.behind(n);
        return what == -1 ? w.laws : w.people.get(what).at;
    }

    public int when(int bill) {
        if (out(bill, 0, 7)) {
            return error(1);
        }
        World w = world;
        for (int n = 0; n <= 60; n++, w = w.behind(1)) {
            if ((w.laws & 1 << bill) != 0) {
                return n;
            }
        }
        return error(2);
    }

    public int turning(int bill) {
        if (out(bill, 0, 7)) {
            return error(1);
        }
        for (int size = 0; size <= 6; size++) {
            for (int set = 0; set < 1 << world.seats.size(); set++) {
                if (Integer.bitCount(set) != size) {
                    continue;
                }
                World w = world.copy();
                for (int c : setOf(set)) {
                    w.seats.get(c).cushion ^= 1 << bill;
                }
                if (w.passes(bill) != world.passes(bill)) {
                    return set;
                }
            }
        }
        return error(2);
    }

    public int moves(int bill) {
        if (out(bill, 0, 7)) {
            return error(1);
        }
        for (int n = 0; n <= 2; n++) {
            if (passesByMoves(world.copy(), bill, n, -1)) {
                return n;
            }
        }
        return error(2);
    }

    private static boolean passesByMoves(World w, int bill, int n, int moved) {
        if (n == 0) {
            return w.passes(bill);
        }
        for (int i = 0; i < w.people.size(); i++) {
            for (int c = -1; c < w.seats.size(); c++) {
                int was = w.people.get(i).at;
                if (i == moved || was == c || w.taken().contains(c)) {
                    continue;
                }
                w.people.get(i).at = c;
                boolean passes = passesByMoves(w, bill, n - 1, i);
                w.people.get(i).at = was;
                if (passes) {
                    return true;
                }
            }
        }
        return false;
    }

    public int power(int chair) {
        if (noChair(chair)) {
            return error(1);
        }
        Set<Integer> taken = world.taken();
        if (!taken.contains(chair)) {
            return error(3);
        }
        double half = 0;
        for (int c : taken) {
            half += world.weight(c) / 2.0;
        }
        int n = 0;
        for (int set = 0; set < 64; set++) {
            Set<Integer> some = setOf(set);
            if (some.contains(chair) || !taken.containsAll(some)) {
                continue;
            }
            int sum = 0;
            for (int c : some) {
                sum += world.weight(c);
            }
            n += sum <= half && sum + world.weight(chair) > half ? 1 : 0;
        }
        return n;
    }

    private List<Integer> setsOfThatSize() {
        List<Integer> all = new ArrayList<>();
        for (int set = 0; set < 1 << world.seats.size(); set++) {
            if (Integer.bitCount(set) == world.taken().size()) {
                all.add(set);
            }
        }
        return all;
    }

    public int fits(int sheet, int what) {
        if (out(sheet, 0, 3) || out(what, 0, 1)) {
            return error(1);
        }
        if (rows[sheet] == null || rows[sheet].length > 8) {
            return error(2);
        }
        List<Integer> fitting = setsOfThatSize();
        for (int b = 0; b < rows[sheet].length; b++) {
            int bill = b;
            fitting.removeIf(set -> world.less(bill, setOf(set)) != rows[sheet][bill]);
        }
        if (what == 0) {
            return fitting.size();
        }
        return fitting.isEmpty() ? error(2) : fitting.get(0);
    }

    public int parts(int what) {
        if (out(what, 0, 1)) {
            return error(1);
        }
        int best = -1;
        int most = -1;
        for (int bill = 0; bill < 8; bill++) {
            Set<Integer> unlike = new HashSet<>();
            for (int set : setsOfThatSize()) {
                unlike.add(world.less(bill, setOf(set)));
            }
            if (unlike.size() > most) {
                most = unlike.size();
                best = bill;
            }
        }
        return what == 0 ? best : most;
    }

    public int faster(int member, int chair) {
        if (noMember(member) || noChair(chair)) {
            return error(1);
        }
        for (int v = 0; v <= 99; v++) {
            World w = world.copy();
            w.people.get(member).speed = v;
            w.runAll();
            if (w.people.get(member).at == chair) {
                return v;
            }
        }
        return error(2);
    }

    public int seatless() {
        World w = world.copy();
        w.runAll();
        int set = 0;
        for (int i = 0; i < w.people.size(); i++) {
            set += w.people.get(i).at == -1 ? 1 << i : 0;
        }
        return set;
    }

    public int seed(int v) {
        int was = world.z;
        world.z = v;
        return was;
    }

    public int voice(int chair, int act, int x) {
        if (noChair(chair) || out(act, 0, 3)) {
            return error(1);
        }
        traced.clear();
        Seat s = world.seats.get(chair);
        return body(s.kind, s.kind, act, chair, s.m, x);
    }

    /** The body of an act from a kind on upwards, for a chair of its own kind. */
    private int body(int own, int from, int act, int n, int m, int x) {
        int[][] bodies = {
            {10, 11, 12, 13}, {20, 0, 0, 0}, {0, 30, 0, 0}, {0, 0, 40, 0},
            {0, 0, 0, 50}, {0, 60, 0, 0}, {0, 0, 70, 71}};
        int k = from;
        while (bodies[k][act] == 0) {
            k = k > 3 ? k - 3 : 0;
        }
        int above = k > 3 ? k - 3 : 0;
        traced.add(bodies[k][act]);
        switch (bodies[k][act]) {
            case 10: return x + n;
            case 11: return body(own, own, 0, n, m, x) * 2;
            case 12: return x - m;
            case 13: return body(own, own, 1, n, m, x) ^ body(own, own, 2, n, m, x);
            case 20: return body(own, above, 0, n, m, x) * 3;
            case 30: return body(own, above, 1, n, m, x) - body(own, own, 2, n, m, 1);
            case 40: return -body(own, above, 2, n, m, x);
            case 50: return body(own, above, 3, n, m, x) - body(own, own, 0, n, m, 2);
            case 60: return body(own, above, 1, n, m, x + 1);
            case 70: return body(own, above, 2, n, m, x) ^ n;
            default: return body(own, own, 1, n, m, x) - body(own, above, 3, n, m, x);
        }
    }

    public int trace(int i) {
        return out(i, 0, Math.min(40, traced.size()) - 1) ? error(2) : traced.get(i);
    }

    public int sheet(int sheet, int bits, int n) {
        if (out(sheet, 0, 3) || bits != 0 && bits != 8 && bits != 16 && bits != 32) {
            return error(1);
        }
        if (bits == 0) {
            rows[sheet] = null;
            return 1;
        }
        if (n < 0) {
            return error(3);
        }
        if (n > 40) {
            return error(1);
        }
        rows[sheet] = new int[n];
        bitsOf[sheet] = bits;
        return 1;
    }

    public int put(int sheet, int i, int v) {
        if (out(sheet, 0, 3)) {
            return error(1);
        }
        if (rows[sheet] == null) {
            return error(2);
        }
        if (out(i, 0, rows[sheet].length - 1)) {
            return error(1);
        }
        int shift = 32 - bitsOf[sheet];
        rows[sheet][i] = v << shift >> shift;
        return 1;
    }

    public int move(int sheet, int i, int other, int j, int n) {
        if (out(sheet, 0, 3) || out(other, 0, 3)) {
            return error(1);
        }
        if (rows[sheet] == null || rows[other] == null) {
            return error(2);
        }
        if (bitsOf[sheet] != bitsOf[other]) {
            return error(5);
        }
        boolean below = n < 0 || i < 0 || j < 0;
        if (below || (long) i + n > rows[sheet].length || (long) j + n > rows[other].length) {
            return error(1);
        }
        int[] numbers = Arrays.copyOfRange(rows[sheet], i, i + n);
        System.arraycopy(numbers, 0, rows[other], j, n);
        return n;
    }

    public int speeds(int sheet) {
        if (out(sheet, 0, 3)) {
            return error(1);
        }
        if (rows[sheet] == null) {
            return error(2);
        }
        int n = 0;
        for (int v : rows[sheet]) {
            if (out(v, 0, 99) || n == world.people.size()) {
                break;
            }
            world.people.get(n++).speed = v;
        }
        return n;
    }

    public int judge(int sheet) {
        if (out(sheet, 0, 3)) {
            return error(1);
        }
        if (rows[sheet] == null) {
            return error(2);
        }
        int most = Math.max(rows[sheet].length, world.people.size());
        for (int i = 0; i < most; i++) {
            boolean both = i < rows[sheet].length && i < world.people.size();
            if (!both || rows[sheet][i] != world.people.get(i).at) {
                return i;
            }
        }
        return -1;
    }

    public int image() {
        imageKept = world.copy();
        return ++images;
    }

    public int restore() {
        if (imageKept == null) {
            return error(2);
        }
        world = imageKept.copy();
        return world.sitting;
    }

    public int tell(int v) {
        if (world.waiting.size() == 20) {
            return error(4);
        }
        world.waiting.add(v);
        return world.waiting.size();
    }

    public int check() {
        List<Integer> told = world.waiting;
        world.waiting = new ArrayList<>();
        World w = world;
        for (int i = 0; i < told.size(); i++) {
            w = w.behind(1);
            if (w.laws != told.get(i)) {
                return 1 + i;
            }
        }
        return 0;
    }

    public int count(int what) {
        if (out(what, 0, 9)) {
            return error(1);
        }
        int weights = 0;
        for (int c : world.taken()) {
            weights += world.weight(c);
        }
        return new int[] {
            world.seats.size(), world.people.size(), world.sitting, world.laws, world.taken().size(),
            weights, world.tape.length(), world.waiting.size(), Math.min(40, traced.size()), world.z}[what];
    }

    public int told(int k) {
        return out(k, 1, 5) ? error(1) : told[k];
    }
}
