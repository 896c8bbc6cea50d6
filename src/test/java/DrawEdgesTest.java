import java.util.function.IntUnaryOperator;

/** The sentences of Terms 3 on draws and voices, and of promises 28 to 30. */
public final class DrawEdgesTest {
    private static final Due DUE = new Due();
    private static final int MIN = Integer.MIN_VALUE;
    private static final int MAX = Integer.MAX_VALUE;
    /** The CHAIR whose VOICES are heard, and its m. */
    private static final int N = 5;
    private static final int M = 9;

    static Sentences sentences() {
        return new Sentences().in("Terms 3")
            .hold("SITTINGS by draws: z is told (1 at first);", DrawEdgesTest::firstSeed)
            .hold("each makes it z * 1103515245 + 12345 (an int), and gives z >>> 8.", DrawEdgesTest::draws)
            .hold("Each: if there are MEMBERS, two draws:", DrawEdgesTest::twoDraws)
            .hold("SPEED of the one that is the first one's rest by how many there are becomes "
                + "the second one's rest by 100;", DrawEdgesTest::drawnSpeed)
            .hold("then a SITTING.", DrawEdgesTest::thenSitting)
            .hold("VOICES of a CHAIR, with a number x (ints that go round); n is the number, m as told: "
                + "0 says, 1 weighs, 2 creaks, 3 tells.", DrawEdgesTest::voices)
            .hold("BODIES: CHAIR: 10 says: x + n. 11 weighs: says(x) * 2. 12 creaks: x - m. "
                + "13 tells: weighs(x) ^ creaks(x).", DrawEdgesTest::chairBodies)
            .hold("WET: 20 says: super.says(x) * 3.", DrawEdgesTest::wetBodies)
            .hold("GLUED: 30 weighs: super.weighs(x) - creaks(1).", DrawEdgesTest::gluedBodies)
            .hold("REPAIRED: 40 creaks: -super.creaks(x).", DrawEdgesTest::repairedBodies)
            .hold("SOAKED: 50 tells: super.tells(x) - says(2).", DrawEdgesTest::soakedBodies)
            .hold("BENCH: 60 weighs: super.weighs(x + 1).", DrawEdgesTest::benchBodies)
            .hold("CROWN: 70 creaks: super.creaks(x) ^ n. 71 tells: weighs(x) - super.tells(x).",
                DrawEdgesTest::crownBodies)
            .hold("says(..) is the BODY of its KIND, or of the next KIND above that has one; "
                + "super.says(..) that from the KIND above the BODY's on.", DrawEdgesTest::whichBody)
            .hold("THE TRACE: the numbers of BODIES of the latest voice(), as they began "
                + "(what stands left is worked out first),", DrawEdgesTest::latestTrace)
            .hold("the first 40.", DrawEdgesTest::longestTrace)
            .in("Promise 28")
            .hold("z becomes v: what it was (any number).", DrawEdgesTest::seed)
            .in("Promise 29")
            .hold("A VOICE of a CHAIR: any number.", DrawEdgesTest::voice)
            .hold("BEYOND.", DrawEdgesTest::voiceBeyond)
            .in("Promise 30")
            .hold("THE TRACE's i-th.", DrawEdgesTest::trace)
            .hold("NONE: there is none such.", DrawEdgesTest::traceNone);
    }

    // ---- draws

    /** By longs, so that the wrap is the test's own. */
    private static int next(int z) {
        return (int) (z * 1103515245L + 12345L & 0xFFFFFFFFL);
    }

    private static int drawn(int z) {
        return (int) ((z & 0xFFFFFFFFL) / 256);
    }

    private static ChairViews seeded(int z, int members) {
        ChairViews x = Due.withChairs(0, 1);
        for (int i = 0; i < members; i++) {
            x.member(i);
        }
        x.seed(z);
        return x;
    }

    private static void firstSeed() {
        ChairViews x = Due.seated(new ChairViews(), -1);
        DUE.is("z", x.count(9), 1);
        x.loose(1);
        DUE.is("z behind two draws from 1", x.count(9), next(next(1)));
        DUE.is("1103527590 is the first", next(1), 1103527590);
    }

    private static void draws() {
        for (int z : new int[] {0, 1, -1, 2, MIN, MAX, 0x12345678, 0x87654321}) {
            ChairViews x = seeded(z, 1);
            x.loose(1);
            DUE.is("z behind two draws from " + z, x.count(9), next(next(z)));
            DUE.is("SPEED by z >>> 8, from " + z, x.ofMember(0, 0), drawn(next(next(z))) % 100);
        }
    }

    private static void twoDraws() {
        ChairViews none = seeded(7, 0);
        none.loose(40);
        DUE.is("no MEMBERS, no draws", none.count(9), 7);
        DUE.is("but SITTINGS", none.count(2), 40);
        int z = 7;
        for (int i = 0; i < 80; i++) {
            z = next(z);
        }
        for (int members = 1; members <= 6; members++) {
            ChairViews x = seeded(7, members);
            x.loose(40);
            DUE.is("80 draws for " + members, x.count(9), z);
        }
    }

    private static void drawnSpeed() {
        for (int members = 1; members <= 6; members++) {
            ChairViews x = seeded(-3, members);
            int[] speeds = {10, 10, 10, 10, 10, 10};
            int z = -3;
            for (int i = 0; i < 25; i++) {
                int first = next(z);
                z = next(first);
                speeds[drawn(first) % members] = drawn(z) % 100;
                x.loose(1);
                for (int member = 0; member < members; member++) {
                    DUE.is("SPEED of " + member + " of " + members, x.ofMember(member, 0), speeds[member]);
                }
            }
        }
    }

    private static void thenSitting() {
        ChairViews x = Due.seated(Due.withChairs(0, 1), -1, 0);
        x.stuff(0, 1, 0b110);
        x.change(0, 0, 0);
        x.change(1, 0, 0);
        DUE.is("LAWS", x.loose(1), 0b111);
        int fast = x.ofMember(1, 0) > x.ofMember(0, 0) ? 1 : 0;
        DUE.is("the RUN is behind the draw", x.ofChair(0, 4), fast);
        DUE.is("somebody is faster", Math.max(x.ofMember(0, 0), x.ofMember(1, 0)) > 0 ? 1 : 0, 1);
        DUE.is("a CUSHION wears", x.ofChair(0, 3), 0b100);
        DUE.is("SITTING", x.count(2), 1);
    }

    // ---- voices

    private static ChairViews speaking(int kind) {
        return Due.withChairs(0, 0, 0, 0, 0, 0, 0, 0, 0, 0, 10 * kind + M, 0);
    }

    /** That a VOICE is as due for numbers at which ints go round, by these BODIES. */
    private static void speaks(int kind, int act, IntUnaryOperator due, int... bodies) {
        for (int x : new int[] {0, 1, -1, 7, MAX, MAX - 5, MIN, MIN + 9, 715827883, 1 << 30}) {
            ChairViews house = speaking(kind);
            DUE.is("VOICE " + act + " of KIND " + kind + ", " + x, house.voice(N, act, x), due.applyAsInt(x));
            DUE.are("TRACE of VOICE " + act + " of KIND " + kind, Due.trace(house), bodies);
        }
    }

    private static int weighs(int x) {
        return (x + N) * 2;
    }

    private static int soakedWeighs(int x) {
        return (x + N) * 3 * 2;
    }

    private static void voices() {
        ChairViews x = Due.withChairs(0, 0, 9, 0);
        DUE.is("says, n 0", x.voice(0, 0, MAX), MAX);
        DUE.is("says, n 1", x.voice(1, 0, MAX), MIN);
        DUE.is("weighs", x.voice(0, 1, 1 << 30), MIN);
        DUE.is("weighs", x.voice(0, 1, MIN), 0);
        DUE.is("creaks, m 0", x.voice(0, 2, MIN), MIN);
        DUE.is("creaks, m 9", x.voice(1, 2, MIN), MAX - 8);
        DUE.is("tells, m 0", x.voice(0, 3, MIN), MIN);
        x.become(1, 3);
        DUE.is("m as told", x.voice(1, 2, 5), 2);
    }

    private static void chairBodies() {
        speaks(0, 0, x -> x + N, 10);
        speaks(0, 1, DrawEdgesTest::weighs, 11, 10);
        speaks(0, 2, x -> x - M, 12);
        speaks(0, 3, x -> weighs(x) ^ x - M, 13, 11, 10, 12);
    }

    private static void wetBodies() {
        speaks(1, 0, x -> (x + N) * 3, 20, 10);
        speaks(1, 1, DrawEdgesTest::soakedWeighs, 11, 20, 10);
        speaks(1, 3, x -> soakedWeighs(x) ^ x - M, 13, 11, 20, 10, 12);
    }

    private static void gluedBodies() {
        speaks(2, 1, x -> weighs(x) - (1 - M), 30, 11, 10, 12);
        speaks(2, 3, x -> weighs(x) - (1 - M) ^ x - M, 13, 30, 11, 10, 12, 12);
    }

    private static void repairedBodies() {
        speaks(3, 2, x -> -(x - M), 40, 12);
        speaks(3, 3, x -> weighs(x) ^ -(x - M), 13, 11, 10, 40, 12);
    }

    private static void soakedBodies() {
        speaks(4, 3, x -> (soakedWeighs(x) ^ x - M) - (2 + N) * 3, 50, 13, 11, 20, 10, 12, 20, 10);
    }

    private static void benchBodies() {
        speaks(5, 1, x -> weighs(x + 1) - (1 - M), 60, 30, 11, 10, 12);
        speaks(5, 3, x -> weighs(x + 1) - (1 - M) ^ x - M, 13, 60, 30, 11, 10, 12, 12);
    }

    private static void crownBodies() {
        speaks(6, 2, x -> -(x - M) ^ N, 70, 40, 12);
        speaks(6, 3, x -> weighs(x) - (weighs(x) ^ -(x - M) ^ N), 71, 11, 10, 13, 11, 10, 70, 40, 12);
    }

    private static void whichBody() {
        speaks(2, 0, x -> x + N, 10);
        speaks(2, 2, x -> x - M, 12);
        speaks(3, 0, x -> x + N, 10);
        speaks(3, 1, DrawEdgesTest::weighs, 11, 10);
        speaks(1, 2, x -> x - M, 12);
        speaks(4, 0, x -> (x + N) * 3, 20, 10);
        speaks(4, 1, DrawEdgesTest::soakedWeighs, 11, 20, 10);
        speaks(4, 2, x -> x - M, 12);
        speaks(5, 0, x -> x + N, 10);
        speaks(5, 2, x -> x - M, 12);
        speaks(6, 0, x -> x + N, 10);
        speaks(6, 1, DrawEdgesTest::weighs, 11, 10);
    }

    private static void latestTrace() {
        ChairViews x = speaking(6);
        DUE.are("none at first", Due.trace(x));
        x.voice(N, 3, 1);
        DUE.are("as they began", Due.trace(x), 71, 11, 10, 13, 11, 10, 70, 40, 12);
        x.voice(0, 0, 1);
        DUE.are("of the latest", Due.trace(x), 10);
        x.voice(6, 3, 1);
        x.voice(0, 4, 1);
        DUE.are("of the latest that was heard", Due.trace(x), 10);
    }

    private static void longestTrace() {
        int most = 0;
        for (int kind = 0; kind <= 6; kind++) {
            for (int act = 0; act <= 3; act++) {
                ChairViews x = speaking(kind);
                x.voice(N, act, 1);
                most = Math.max(most, x.count(8));
                DUE.is("the one behind the last", x.trace(x.count(8)), Due.NONE);
                DUE.is("the 41st", x.trace(40), Due.NONE);
            }
        }
        DUE.is("no VOICE has more than a CROWN's tells", most, 9);
    }

    // ---- promises 28 to 30

    private static void seed() {
        ChairViews x = new ChairViews();
        int before = 1;
        for (int v : new int[] {0, -1, MIN, MAX, Due.LOW, Due.BEYOND, Due.NONE, Due.STATE, Due.FULL, Due.KIND, 1}) {
            DUE.is("seed(" + v + ")", x.seed(v), before);
            DUE.is("z", x.count(9), v);
            before = v;
        }
        DUE.are("no ERRORS", Due.told(x), 0, 0, 0, 0, 0);
    }

    private static void voice() {
        for (int v : new int[] {MIN, MAX, 0, Due.LOW, Due.BEYOND, Due.NONE, Due.STATE, Due.FULL, Due.KIND}) {
            DUE.answers("voice(0, 0, " + v + ")", () -> speaking(0), x -> x.voice(0, 0, v), v);
        }
    }

    private static void voiceBeyond() {
        DUE.chairs("voice(v, 0, 1)", (x, v) -> x.voice(v, 0, 1));
        DUE.within("voice(0, v, 1)", 0, 3, Due::furnished, (x, v) -> x.voice(0, v, 1));
        DUE.refuses("any x", Due::furnished, x -> x.voice(4, 0, MAX), Due.BEYOND);
    }

    private static void trace() {
        ChairViews x = Due.furnished();
        int[] due = {71, 11, 10, 13, 11, 10, 70, 40, 12};
        for (int i = 0; i < due.length; i++) {
            DUE.is("trace(" + i + ")", x.trace(i), due[i]);
        }
        DUE.onlyThinks("trace(0)", Due::furnished, y -> y.trace(0), 71);
    }

    private static void traceNone() {
        DUE.refuses("none at first", ChairViews::new, x -> x.trace(0), Due.NONE);
        for (int i : new int[] {-1, 9, 39, 40, 41, MIN, MAX}) {
            DUE.refuses("trace(" + i + ") of 9", Due::furnished, x -> x.trace(i), Due.NONE);
        }
        ChairViews x = speaking(6);
        x.voice(N, 3, 1);
        x.voice(N, 0, 1);
        DUE.is("one of a longer VOICE ahead", x.trace(1), Due.NONE);
    }

    public static void main(String[] args) {
        sentences().runAll(DUE);
    }
}
