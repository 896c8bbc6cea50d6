import java.util.function.ToIntFunction;

/** The sentences ahead of Terms 1, and of promises 36 to 41: ERRORS, images, what is told. */
public final class ToldEdgesTest {
    private static final Due DUE = new Due();
    private static final int BEYOND = Due.BEYOND;
    private static final int NONE = Due.NONE;

    static Sentences sentences() {
        return new Sentences().in("What it is")
            .hold("An object is used for at most 512 calls after it has been made; what later calls answer is free.",
                ToldEdgesTest::calls)
            .in("Terms")
            .hold("ERRORS are answers below -1000000000: LOW is -1000000000; LOW - 1 BEYOND, LOW - 2 NONE, "
                + "LOW - 3 STATE, LOW - 4 FULL, LOW - 5 KIND.", ToldEdgesTest::errors)
            .hold("Each act tells its ERRORS in the order in which they are asked;", ToldEdgesTest::order)
            .hold("one that answers an ERROR changes nothing but what told() tells.", ToldEdgesTest::changesNothing)
            .hold("Quotients are cut.", ToldEdgesTest::quotients)
            .in("Promise 36")
            .hold("All (but SHEETS, THE TRACE, what told() tells, and how often this was done) is kept as an IMAGE,",
                ToldEdgesTest::image)
            .hold("in place of one ahead: how often that was done.", ToldEdgesTest::imageInPlace)
            .in("Promise 37")
            .hold("All is as the IMAGE has it, which stays: SITTING.", ToldEdgesTest::restore)
            .hold("NONE: there is none.", ToldEdgesTest::restoreNone)
            .in("Promise 38")
            .hold("One more number waits: how many.", ToldEdgesTest::tell)
            .hold("FULL: 20 wait.", ToldEdgesTest::tellFull)
            .in("Promise 39")
            .hold("The numbers that wait (none do then) are LAWS behind 1, 2, .. SITTINGS: 0;", ToldEdgesTest::check)
            .hold("else 1 and the place (from 0) of the first that isn't so.", ToldEdgesTest::checkPlace)
            .in("Promise 40")
            .hold("0 CHAIRS, 1 MEMBERS, 2 SITTING, 3 LAWS, 4 how many sit, "
                + "5 WEIGHTS of all CHAIRS at which somebody is, together, 6 bytes of THE TAPE, "
                + "7 numbers that wait, 8 BODIES in THE TRACE, 9 z (any number).", ToldEdgesTest::count)
            .hold("BEYOND.", ToldEdgesTest::countBeyond)
            .in("Promise 41")
            .hold("How many acts have answered an ERROR LOW - k (k 1 .. 5);", ToldEdgesTest::told)
            .hold("BEYOND: another k (counted, too).", ToldEdgesTest::toldBeyond);
    }

    // ---- ahead of Terms 1

    private static void calls() {
        ChairViews x = new ChairViews();
        for (int i = 0; i < 510; i++) {
            x.trace(i);
        }
        DUE.is("the 511th call", x.told(2), 510);
        DUE.is("the 512th call", x.chair(69, 255), 0);
        ChairViews images = new ChairViews();
        for (int i = 1; i <= 512; i++) {
            DUE.is("image()", images.image(), i);
        }
    }

    private static void errors() {
        ChairViews x = Due.full();
        DUE.is("BEYOND", x.chair(70, 0), -1000000001);
        DUE.is("NONE", x.trace(40), -1000000002);
        DUE.is("STATE", x.sheet(0, 8, -1), -1000000003);
        DUE.is("FULL", x.chair(0, 0), -1000000004);
        DUE.is("KIND", x.as(0, 1), -1000000005);
        for (int k = 1; k <= 5; k++) {
            DUE.is("told(" + k + ")", x.told(k), 1);
        }
        DUE.is("LOW itself is none", x.seed(-1000000000), 1);
        DUE.is("LOW itself is none", x.count(9), -1000000000);
        for (int k = 1; k <= 5; k++) {
            DUE.is("told(" + k + ")", x.told(k), 1);
        }
    }

    private static ChairViews fullAndLate() {
        ChairViews x = Due.late(9999);
        for (int i = 0; i < 4; i++) {
            x.chair(40, 0);
        }
        for (int i = 0; i < 5; i++) {
            x.member(0);
        }
        for (int i = 0; i < 20; i++) {
            x.tell(0);
        }
        Due.feed(x, "1".repeat(50));
        x.sheet(0, 8, 9);
        x.sheet(1, 16, 1);
        return x;
    }

    private static void ahead(String call, ToIntFunction<ChairViews> act, int first) {
        DUE.refuses(call, ToldEdgesTest::fullAndLate, act, first);
    }

    private static void order() {
        ahead("chair: BEYOND, FULL", x -> x.chair(70, 0), BEYOND);
        ahead("chair: FULL", x -> x.chair(69, 0), Due.FULL);
        ahead("as: BEYOND, KIND", x -> x.as(6, 1), BEYOND);
        ahead("as: KIND", x -> x.as(0, 1), Due.KIND);
        ahead("member: BEYOND, FULL", x -> x.member(8), BEYOND);
        ahead("member: FULL", x -> x.member(7), Due.FULL);
        ahead("sit: BEYOND, STATE", x -> x.sit(6, 0), BEYOND);
        ahead("sit: STATE", x -> x.sit(5, 0), Due.STATE);
        ahead("feed: BEYOND, FULL", x -> x.feed(0L, 9), BEYOND);
        ahead("feed: FULL", x -> x.feed(0L, 8), Due.FULL);
        ahead("sittings: BEYOND, STATE", x -> x.sittings(61), BEYOND);
        ahead("sittings: STATE", x -> x.sittings(60), Due.STATE);
        ahead("loose: BEYOND, STATE", x -> x.loose(41), BEYOND);
        ahead("loose: STATE", x -> x.loose(40), Due.STATE);
        ahead("power: BEYOND, STATE", x -> x.power(6), BEYOND);
        ahead("power: STATE", x -> x.power(5), Due.STATE);
        ahead("fits: BEYOND, NONE", x -> x.fits(0, 2), BEYOND);
        ahead("fits: NONE", x -> x.fits(0, 1), NONE);
        ahead("faster: BEYOND, NONE", x -> x.faster(6, 5), BEYOND);
        ahead("sheet: BEYOND of bits, STATE", x -> x.sheet(0, 9, -1), BEYOND);
        ahead("sheet: STATE", x -> x.sheet(0, 8, -1), Due.STATE);
        ahead("put: BEYOND, NONE, BEYOND", x -> x.put(4, 9, 0), BEYOND);
        ahead("put: NONE, BEYOND", x -> x.put(3, 9, 0), NONE);
        ahead("move: BEYOND, NONE", x -> x.move(4, 0, 3, 0, 1), BEYOND);
        ahead("move: NONE, BEYOND", x -> x.move(0, 0, 3, 0, -1), NONE);
        ahead("move: KIND, BEYOND", x -> x.move(0, 0, 1, 0, -1), Due.KIND);
        ahead("speeds: BEYOND, NONE", x -> x.speeds(4), BEYOND);
        ahead("judge: BEYOND, NONE", x -> x.judge(4), BEYOND);
    }

    private static void changesNothing() {
        refusedOnFurnished("ofChair", x -> x.ofChair(4, 0), BEYOND);
        refusedOnFurnished("stuff", x -> x.stuff(0, 2, 0), BEYOND);
        refusedOnFurnished("become", x -> x.become(0, 70), BEYOND);
        refusedOnFurnished("ofMember", x -> x.ofMember(3, 0), BEYOND);
        refusedOnFurnished("change", x -> x.change(0, 1, 8), BEYOND);
        refusedOnFurnished("text", x -> x.text(2), BEYOND);
        refusedOnFurnished("law", x -> x.law(2, 0, 0, 0), BEYOND);
        refusedOnFurnished("vote", x -> x.vote(8, 0), BEYOND);
        refusedOnFurnished("says", x -> x.says(0, 8), BEYOND);
        refusedOnFurnished("then", x -> x.then(61, -1), BEYOND);
        refusedOnFurnished("when", x -> x.when(3), NONE);
        refusedOnFurnished("turning", x -> x.turning(8), BEYOND);
        refusedOnFurnished("moves", x -> x.moves(8), BEYOND);
        refusedOnFurnished("parts", x -> x.parts(2), BEYOND);
        refusedOnFurnished("voice", x -> x.voice(0, 4, 0), BEYOND);
        refusedOnFurnished("trace", x -> x.trace(9), NONE);
        refusedOnFurnished("restore", ChairViews::restore, NONE);
        refusedOnFurnished("count", x -> x.count(10), BEYOND);
        refusedOnFurnished("told", x -> x.told(6), BEYOND);
        DUE.refuses("tell", ToldEdgesTest::fullAndLate, x -> x.tell(0), Due.FULL);
    }

    private static void refusedOnFurnished(String call, ToIntFunction<ChairViews> act, int error) {
        DUE.refuses(call, Due::furnished, act, error);
    }

    private static void quotients() {
        ChairViews x = Due.withChairs(58, 0);
        DUE.is("8 / 3", x.ofChair(0, 5), 1 + 2);
        Due.textOf(x, 1, "h/n");
        DUE.is("99 / 100", x.law(1, 99, 100, 0), 0);
        DUE.is("-99 / 100", x.law(1, -99, 100, 0), 0);
        DUE.is("-199 / 100", x.law(1, -199, 100, 0), -1);
        DUE.is("199 / -100", x.law(1, 199, -100, 0), -1);
    }

    // ---- promises 36 to 39

    private static ChairViews imaged() {
        ChairViews x = Due.furnished();
        x.image();
        Due.changeAll(x);
        x.voice(3, 3, 1);
        return x;
    }

    private static void image() {
        ChairViews x = imaged();
        DUE.is("it is another now", Due.seen(x).equals(Due.seen(Due.furnished())) ? 1 : 0, 0);
        x.restore();
        DUE.same("all that can be seen", Due.seen(x), Due.seen(Due.furnished()));
        x = imaged();
        x.restore();
        DUE.same("THE TAPE, what waits", Probe.TAPE_AND_WAITING.of(x), Probe.TAPE_AND_WAITING.of(Due.furnished()));
        x = Due.furnished();
        x.image();
        x.sheet(0, 16, 1);
        x.put(0, 0, 77);
        x.sheet(3, 8, 0);
        x.voice(0, 0, 1);
        x.trace(-1);
        x.restore();
        DUE.is("SHEETS aren't kept", x.speeds(0) * 100 + x.ofMember(0, 0), 177);
        DUE.is("SHEETS aren't kept", x.fits(3, 0), 6);
        DUE.are("THE TRACE isn't kept", Due.trace(x), 10);
        DUE.are("what told() tells isn't kept", Due.told(x), 0, 1, 0, 0, 0);
        DUE.is("how often isn't kept", x.image(), 2);
    }

    private static void imageInPlace() {
        ChairViews x = Due.withChairs(0, 1);
        DUE.is("the first", x.image(), 1);
        x.sittings(5);
        x.stuff(0, 0, 7);
        DUE.is("the second", x.image(), 2);
        x.sittings(5);
        x.stuff(0, 0, 0);
        DUE.is("the latest is there", x.restore(), 5);
        DUE.is("the latest is there", x.ofChair(0, 2), 7);
        DUE.is("the third", x.image(), 3);
        DUE.is("of nothing", new ChairViews().image(), 1);
    }

    private static void restore() {
        ChairViews x = imaged();
        DUE.is("SITTING", x.restore(), 3);
        DUE.is("SITTING", x.count(2), 3);
        Due.changeAll(x);
        x.voice(3, 3, 1);
        DUE.is("it stays", x.restore(), 3);
        DUE.same("it stays as it was", Due.seen(x), Due.seen(Due.furnished()));
        ChairViews empty = new ChairViews();
        empty.image();
        empty.chair(0, 1);
        empty.member(0);
        empty.sittings(9);
        DUE.is("to nothing", empty.restore(), 0);
        DUE.is("no CHAIRS", empty.ofChair(0, 0), BEYOND);
        DUE.is("no MEMBERS", empty.ofMember(0, 0), BEYOND);
        DUE.is("a CHAIR of its own", empty.chair(0, 2) + empty.ofChair(0, 3), 0);
        ChairViews late = Due.late(9999);
        late.image();
        DUE.is("9999", late.restore(), 9999);
        DUE.is("no more", late.sittings(1), Due.STATE);
    }

    private static void restoreNone() {
        DUE.refuses("at first", ChairViews::new, ChairViews::restore, NONE);
        DUE.refuses("with all else", Due::furnished, ChairViews::restore, NONE);
        ChairViews x = Due.furnished();
        x.restore();
        x.image();
        DUE.is("there is one", x.restore(), 3);
    }

    private static void tell() {
        ChairViews x = new ChairViews();
        int[] numbers = {0, -1, 255, 256, Integer.MIN_VALUE, Integer.MAX_VALUE, BEYOND};
        for (int i = 0; i < numbers.length; i++) {
            DUE.is("tell(" + numbers[i] + ")", x.tell(numbers[i]), i + 1);
            DUE.is("count(7)", x.count(7), i + 1);
        }
        x.check();
        DUE.is("none waited", x.tell(5), 1);
        DUE.are("no ERROR", Due.told(x), 0, 0, 0, 0, 0);
    }

    private static void tellFull() {
        ChairViews x = new ChairViews();
        for (int i = 1; i <= 20; i++) {
            DUE.is("tell", x.tell(0), i);
        }
        DUE.is("the 21st", x.tell(0), Due.FULL);
        DUE.is("20 wait", x.count(7), 20);
        DUE.refuses("the 21st", Due::full, y -> y.tell(0), Due.FULL);
        DUE.is("20 are right", x.check(), 0);
        DUE.is("none wait then", x.tell(0), 1);
    }

    /** A CUSHION that wears bit for bit: LAWS are 255, 254, 252, 248, .. 128, 0, 0, .. */
    private static ChairViews wearing(int... numbers) {
        ChairViews x = Due.seated(Due.withChairs(0, 0), -1);
        x.stuff(0, 1, 255);
        for (int number : numbers) {
            x.tell(number);
        }
        return x;
    }

    private static void check() {
        DUE.is("none wait", wearing().check(), 0);
        DUE.is("one", wearing(255).check(), 0);
        DUE.is("two", wearing(255, 254).check(), 0);
        ChairViews x = wearing(255, 254, 252, 248, 240, 224, 192, 128, 0, 0, 0, 0, 0, 0, 0, 0, 0, 0, 0, 0);
        String cushion = x.ofChair(0, 3) + " " + x.count(2) + " " + x.count(3) + " " + x.ofMember(0, 2);
        DUE.is("20", x.check(), 0);
        DUE.is("none do then", x.count(7), 0);
        DUE.is("none do then", x.check(), 0);
        DUE.same("it is only thought", x.ofChair(0, 3) + " " + x.count(2) + " " + x.count(3) + " " + x.ofMember(0, 2), cushion);
    }

    private static void checkPlace() {
        DUE.is("the first of one", wearing(254).check(), 1);
        DUE.is("LAWS now are none of them", wearing(0, 255).check(), 1);
        DUE.is("the second", wearing(255, 255).check(), 2);
        DUE.is("of two the first", wearing(255, 255, 255).check(), 2);
        DUE.is("the third", wearing(255, 254, 254).check(), 3);
        DUE.is("unlike beyond 8 bits", wearing(255, 254 + 256).check(), 2);
        DUE.is("below 0", wearing(-1).check(), 1);
        ChairViews x = wearing(255, 254, 252, 248, 240, 224, 192, 128, 0, 0, 0, 0, 0, 0, 0, 0, 0, 0, 0, 1);
        DUE.is("the 20th", x.check(), 20);
        DUE.is("none do then", x.count(7), 0);
        DUE.are("no ERROR", Due.told(x), 0, 0, 0, 0, 0);
    }

    // ---- promises 40 and 41

    private static void count() {
        ChairViews x = Due.full();
        x.sittings(2);
        x.seed(Integer.MIN_VALUE);
        int[] due = {6, 6, 2, x.then(0, -1), 6, 30, 50, 20, 9, Integer.MIN_VALUE};
        for (int what = 0; what <= 9; what++) {
            DUE.is("count(" + what + ")", x.count(what), due[what]);
        }
        x.sit(1, -1);
        DUE.is("5 sit", x.count(4), 5);
        DUE.is("WEIGHTS of those taken", x.count(5) + x.ofChair(chairOf(x, -1), 5), 30);
        ChairViews none = new ChairViews();
        for (int what = 0; what <= 8; what++) {
            DUE.is("count(" + what + ") at first", none.count(what), 0);
        }
        for (int v : new int[] {Due.LOW, BEYOND, NONE, Due.KIND, Integer.MAX_VALUE}) {
            none.seed(v);
            DUE.is("any number", none.count(9), v);
        }
        DUE.are("no ERROR", Due.told(none), 0, 0, 0, 0, 0);
    }

    private static int chairOf(ChairViews x, int member) {
        int chair = 0;
        while (chair < 5 && x.ofChair(chair, 4) != member) {
            chair++;
        }
        return chair;
    }

    private static void countBeyond() {
        DUE.within("count(v)", 0, 9, Due::furnished, ChairViews::count);
        DUE.within("count(v) of a new one", 0, 9, ChairViews::new, ChairViews::count);
    }

    private static void told() {
        ChairViews x = Due.full();
        DUE.are("none", Due.told(x), 0, 0, 0, 0, 0);
        for (int i = 1; i <= 3; i++) {
            x.vote(8, 0);
            x.trace(9);
            x.trace(9);
            x.sheet(0, 8, -1);
            x.tell(0);
            x.member(0);
            x.as(0, 1);
            DUE.are("of each", Due.told(x), i, 2 * i, i, 2 * i, i);
        }
        x.text(1);
        x.speeds(0);
        DUE.are("a FAULT is none", Due.told(x), 3, 6, 3, 6, 3);
        x.image();
        x.restore();
        DUE.are("they stay", Due.told(x), 3, 6, 3, 6, 3);
    }

    private static void toldBeyond() {
        DUE.within("told(v)", 1, 5, Due::furnished, ChairViews::told);
        ChairViews x = new ChairViews();
        DUE.is("told(0)", x.told(0), BEYOND);
        DUE.is("counted", x.told(1), 1);
        DUE.is("told(6)", x.told(6), BEYOND);
        DUE.is("counted, too", x.told(1), 2);
    }

    public static void main(String[] args) {
        sentences().runAll(DUE);
    }
}
