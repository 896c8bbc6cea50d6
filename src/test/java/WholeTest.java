import java.lang.reflect.InvocationTargetException;
import java.lang.reflect.Method;
import java.util.ArrayList;
import java.util.Arrays;
import java.util.List;
import java.util.Random;

/**
 * What the document says first of all, in short; and what no single sentence of it holds: that no
 * call throws, however many there have been, and that no object minds another.
 */
public final class WholeTest {
    private static final Due DUE = new Due();
    private static final int MANY_CALLS = 40000;
    private static final int[] NUMBERS = {
        -1, 0, 1, 2, 3, 4, 5, 6, 7, 8, 9, 10, 32, 40, 41, 60, 61, 69, 70, 99, 100, 255, 256,
        Integer.MIN_VALUE, Integer.MIN_VALUE + 1, Integer.MAX_VALUE, Integer.MAX_VALUE - 1, Due.LOW, Due.KIND};

    static Sentences sentences() {
        return new Sentences().in("What it is")
            .hold("Spoken for by a chair: in that parliament the seats hold the opinions, and whoever sits has them, "
                + "so members run;", WholeTest::seatsHoldOpinions)
            .hold("chairs of kinds, wet ones that abstain, glued ones that vote with the next, "
                + "repaired ones that have held every view, soaked ones, benches, a crown;", WholeTest::kinds)
            .hold("cushions that are amendments;", WholeTest::amendments)
            .hold("members by speed and hobby, who sits where, who stands;", WholeTest::speedAndHobby)
            .hold("sittings by which all run, bills are voted, cushions wear;", WholeTest::sittings)
            .hold("how each bill goes, the fewest cushions that turn one, whom to move so that one passes, "
                + "what power a chair has, who gets a told chair, which bills would be law behind told sittings, "
                + "who can sit where by how bills went, which bill parts most, what a faster one gains, "
                + "who never sits;", WholeTest::wouldBe)
            .hold("sittings by draws;", WholeTest::draws)
            .hold("laws in texts, rows, images.", WholeTest::kept);
    }

    // ---- in short

    private static void seatsHoldOpinions() {
        ChairViews x = Due.withChairs(0, 0b01, 0, 0b10);
        x.member(0);
        x.member(0);
        for (int member = 0; member < 2; member++) {
            x.sit(member, 0);
            DUE.is("MEMBER " + member + " on 0", x.vote(0, 2) * 10 + x.vote(1, 2), 10);
            x.sit(member, 1);
            DUE.is("MEMBER " + member + " on 1", x.vote(0, 2) * 10 + x.vote(1, 2), 1);
            x.sit(member, -1);
        }
        x.change(1, 0, 11);
        x.run();
        DUE.are("both want 0, the faster one has it", Due.at(x), 1, 0);
    }

    /** All of VIEWS 0b0001 (but for one) and all taken; what they say on BILL 0, and weigh. */
    private static void kinds() {
        ChairViews x = Due.withChairs(0, 1, 10, 1, 20, 1, 30, 0b11110, 40, 1, 56, 1);
        Due.seated(x, 0, 1, 2, 3, 4, 5);
        int[] says = {2, 1, 0, 2, 1, 2};
        int[] weighs = {1, 1, 1, 1, 1, 3};
        for (int chair = 0; chair < 6; chair++) {
            DUE.is("what " + chair + " says", x.says(chair, 0), says[chair]);
            DUE.is("what " + chair + " weighs", x.ofChair(chair, 5), weighs[chair]);
        }
        x.become(3, 60);
        DUE.is("what a CROWN says", x.says(3, 0), 0);
        DUE.is("what a CROWN weighs", x.ofChair(3, 5), 2);
    }

    private static void amendments() {
        ChairViews x = Due.seated(Due.withChairs(0, 0b0101), 0);
        x.stuff(0, 1, 0b0011);
        DUE.is("LAWS", x.then(1, -1), 0b0110);
        DUE.is("VIEWS are as they were", x.ofChair(0, 2), 0b0101);
    }

    private static void speedAndHobby() {
        ChairViews x = Due.withChairs(0, 0b001, 0, 0b010);
        x.member(1);
        x.member(1);
        x.member(0);
        x.change(1, 0, 20);
        DUE.is("run()", x.run(), 2);
        DUE.are("the fast one has what he likes, one what is left, one stands", Due.at(x), 0, 1, -1);
    }

    private static void sittings() {
        ChairViews x = Due.seated(Due.withChairs(0, 0b100), -1);
        x.stuff(0, 1, 0b011);
        DUE.is("bills are voted", x.sittings(1), 0b111);
        DUE.are("all run", Due.at(x), 0);
        DUE.are("cushions wear", Due.cushions(x), 0b010);
        DUE.is("bills are voted", x.sittings(1), 0b110);
        DUE.is("SITTING", x.count(2), 2);
    }

    /** CHAIRS 0, 1 are against BILL 0, CHAIRS 2, 3 for it; 0, 1 are taken; Ann is fast, Bob is slow, Cid slower. */
    private static void wouldBe() {
        ChairViews x = Due.seated(Due.withChairs(0, 0, 0, 0, 0, 1, 0, 1), 0, 1, -1, -1, -1);
        x.change(0, 0, 50);
        x.change(4, 0, 9);
        DUE.is("how BILL 0 goes", x.vote(0, 2), 0);
        DUE.is("the fewest CUSHIONS that turn it", x.turning(0), 0b0011);
        DUE.is("how many must move so that it passes", x.moves(0), 2);
        DUE.is("what power CHAIR 1 has", x.power(1), 1);
        DUE.is("who gets CHAIR 2 behind a SITTING", x.then(1, 0), 2);
        DUE.is("which BILLS would be law", x.then(1, -1), 0);
        x.sheet(0, 8, 1);
        x.put(0, 0, 2);
        DUE.is("which CHAIRS were taken, if BILL 0 went by 2", x.fits(0, 1), 0b1100);
        DUE.is("which BILL parts most", x.parts(0), 0);
        DUE.is("into how many", x.parts(1), 3);
        DUE.is("how fast the second must be for CHAIR 2", x.faster(1, 2), 51);
        DUE.is("who never sits", x.seatless(), 0b10000);
        DUE.is("nothing of it has happened", x.count(2) * 10 + x.count(4), 2);
    }

    private static void draws() {
        ChairViews x = Due.seated(Due.withChairs(0, 1), -1);
        DUE.is("LAWS", x.loose(1), 1);
        DUE.is("z", x.count(9), (1103515245 + 12345) * 1103515245 + 12345);
        DUE.is("SPEED", x.ofMember(0, 0), (x.count(9) >>> 8) % 100);
    }

    private static void kept() {
        ChairViews x = Due.seated(Due.withChairs(0, 0b111), 0);
        Due.textOf(x, 0, "k*2");
        DUE.is("by a TEXT", x.vote(0, 0), 6);
        x.sheet(1, 16, 3);
        x.put(1, 0, 77);
        DUE.is("by a row", x.speeds(1) * 100 + x.ofMember(0, 0), 177);
        x.image();
        x.stuff(0, 0, 0);
        x.sittings(2);
        DUE.is("by an IMAGE", x.restore(), 0);
        DUE.is("by an IMAGE", x.vote(0, 0), 6);
    }

    // ---- what no single sentence holds

    private static List<Method> calls() {
        List<Method> calls = new ArrayList<>(Arrays.asList(ChairViews.class.getDeclaredMethods()));
        calls.removeIf(call -> !java.lang.reflect.Modifier.isPublic(call.getModifiers()));
        calls.sort((a, b) -> a.getName().compareTo(b.getName()));
        return calls;
    }

    /** Half of the numbers are small, so that much of what is asked can be done. */
    private static int number(Random r) {
        return r.nextBoolean() ? r.nextInt(8) : r.nextInt(10) == 0 ? r.nextInt() : NUMBERS[r.nextInt(NUMBERS.length)];
    }

    /** One call of a random run: what it answers. */
    private static int next(Random r, List<Method> calls, ChairViews x) throws Exception {
        Method call = calls.get(r.nextInt(calls.size()));
        Object[] numbers = new Object[call.getParameterCount()];
        for (int i = 0; i < numbers.length; i++) {
            boolean word = call.getParameterTypes()[i] == long.class;
            numbers[i] = word ? (Object) r.nextLong() : (Object) number(r);
        }
        try {
            return (Integer) call.invoke(x, numbers);
        } catch (InvocationTargetException thrown) {
            DUE.same(call.getName() + Arrays.toString(numbers), thrown.getCause().toString(), "an answer");
            return 0;
        }
    }

    private static void neverThrows() throws Exception {
        List<Method> calls = calls();
        DUE.is("calls of the face", calls.size(), 40);
        DUE.under("no call throws, far beyond the 512th");
        for (int seed = 0; seed < 3; seed++) {
            Random r = new Random(seed);
            ChairViews x = new ChairViews();
            long sum = 0;
            for (int i = 0; i < MANY_CALLS; i++) {
                sum += next(r, calls, x);
            }
            DUE.is("answers, run " + seed, sum == 0 ? 0 : 1, 1);
        }
    }

    private static void mindsNoOther() throws Exception {
        List<Method> calls = calls();
        DUE.under("two objects by turns are as each alone");
        for (int seed = 0; seed < 20; seed++) {
            Random[] alone = {new Random(seed), new Random(seed + 100)};
            Random[] byTurns = {new Random(seed), new Random(seed + 100)};
            ChairViews[] first = {new ChairViews(), new ChairViews()};
            ChairViews[] both = {new ChairViews(), new ChairViews()};
            List<List<Integer>> due = List.of(new ArrayList<>(), new ArrayList<>());
            for (int which = 0; which < 2; which++) {
                for (int i = 0; i < 512; i++) {
                    due.get(which).add(next(alone[which], calls, first[which]));
                }
            }
            for (int i = 0; i < 1024; i++) {
                int got = next(byTurns[i % 2], calls, both[i % 2]);
                DUE.is("call " + i / 2 + " of " + i % 2 + ", run " + seed, got, due.get(i % 2).get(i / 2));
            }
        }
    }

    public static void main(String[] args) throws Exception {
        neverThrows();
        mindsNoOther();
        sentences().runAll(DUE);
    }
}
