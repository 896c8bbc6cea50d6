import java.util.function.Supplier;
import java.util.function.ToIntFunction;

/** The sentences of Terms 3 on what is only thought, and of promises 19 to 27. */
public final class ThoughtEdgesTest {
    private static final Due DUE = new Due();
    private static final int NONE = Due.NONE;

    static Sentences sentences() {
        return new Sentences().in("Terms 3")
            .hold("(All this is only thought,", ThoughtEdgesTest::onlyThought)
            .hold("SITTING beyond 9999, too.)", ThoughtEdgesTest::beyondTheLast)
            .hold("BEHIND n SITTINGS (0 to 60).", ThoughtEdgesTest::behind)
            .hold("WHEN: behind how many SITTINGS (0 to 60) a BILL is in LAWS first.", ThoughtEdgesTest::first)
            .hold("TURNS: the fewest CHAIRS whose CUSHION would have to be the other way round as to a BILL "
                + "so that it goes the other way (PASSES or not), as all sit now;", ThoughtEdgesTest::turns)
            .hold("of several sets the least.", ThoughtEdgesTest::leastTurns)
            .hold("MOVES: how many MEMBERS, at least, must go elsewhere so that a BILL PASSES: 0, if it does;",
                ThoughtEdgesTest::movesNone)
            .hold("1, if it does by one who goes to a CHAIR at which nobody is, or stands up;", ThoughtEdgesTest::movesOne)
            .hold("2, if it does by two who do so, one behind the other.", ThoughtEdgesTest::movesTwo)
            .hold("POWER of a CHAIR at which somebody is: of all sets of the other CHAIRS at which somebody is "
                + "how many weigh no more than half of all WEIGHTS together without it, and more than half with it.",
                ThoughtEdgesTest::half)
            .hold("FITS: a SHEET tells how BILLS 0, 1, .. (as many as it has numbers) went, FOR less AGAINST:",
                ThoughtEdgesTest::howBillsWent)
            .hold("how many sets of CHAIRS there are, as many as are taken now, with which, "
                + "were these the ones at which somebody is, all went so; the least.", ThoughtEdgesTest::setsThatFit)
            .hold("PARTS: the BILL of which there are most unlike such numbers (FOR less AGAINST) "
                + "over all sets of as many CHAIRS as are taken now;", ThoughtEdgesTest::mostUnlike)
            .hold("of several the least.", ThoughtEdgesTest::leastParts)
            .hold("FASTER: the least SPEED (0 to 99) with which a MEMBER, behind one RUN, is AT a told CHAIR.",
                ThoughtEdgesTest::leastSpeed)
            .hold("SEATLESS: MEMBERS who stand behind one RUN, as a set.", ThoughtEdgesTest::whoStand)
            .in("Promise 19")
            .hold("BEHIND n SITTINGS: what -1 LAWS, 0 .. where the MEMBER of that number is AT (-1: he stands).",
                ThoughtEdgesTest::then)
            .hold("BEYOND.", ThoughtEdgesTest::thenBeyond)
            .in("Promise 20")
            .hold("WHEN. BEYOND.", ThoughtEdgesTest::whenBeyond)
            .hold("NONE: not by 60.", ThoughtEdgesTest::whenNone)
            .in("Promise 21")
            .hold("TURNS: the set of CHAIRS.", ThoughtEdgesTest::turning)
            .hold("BEYOND.", ThoughtEdgesTest::turningBeyond)
            .hold("NONE: none does.", ThoughtEdgesTest::turningNone)
            .in("Promise 22")
            .hold("MOVES. BEYOND.", ThoughtEdgesTest::movesBeyond)
            .hold("NONE: not by 2.", ThoughtEdgesTest::movesNotByTwo)
            .in("Promise 23")
            .hold("POWER. BEYOND.", ThoughtEdgesTest::powerBeyond)
            .hold("STATE: nobody is AT it.", ThoughtEdgesTest::powerState)
            .in("Promise 24")
            .hold("FITS, by a SHEET: what 0 how many, 1 the least.", ThoughtEdgesTest::fits)
            .hold("BEYOND.", ThoughtEdgesTest::fitsBeyond)
            .hold("NONE: the SHEET is missing, has more than 8 numbers;", ThoughtEdgesTest::fitsNone)
            .hold("(what 1) there is none.", ThoughtEdgesTest::fitsNoSet)
            .in("Promise 25")
            .hold("PARTS: what 0 the BILL, 1 how many unlike numbers.", ThoughtEdgesTest::parts)
            .hold("BEYOND.", ThoughtEdgesTest::partsBeyond)
            .in("Promise 26")
            .hold("FASTER. BEYOND.", ThoughtEdgesTest::fasterBeyond)
            .hold("NONE: by none.", ThoughtEdgesTest::fasterNone)
            .in("Promise 27")
            .hold("SEATLESS.", ThoughtEdgesTest::seatless);
    }

    /** Six plain CHAIRS, of which the last ones are for BILL 0, and who sits where. */
    private static ChairViews rows(int howManyFor, int... at) {
        ChairViews x = new ChairViews();
        for (int chair = 0; chair < 6; chair++) {
            x.chair(0, chair >= 6 - howManyFor ? 1 : 0);
        }
        return Due.seated(x, at);
    }

    /** One who is for BILL 0 and weighs what a TEXT gives. */
    private static ChairViews weighing(String text) {
        ChairViews x = Due.seated(Due.withChairs(0, 1), 0);
        Due.textOf(x, 0, text);
        return x;
    }

    private static void withFull(String call, ToIntFunction<ChairViews> act) {
        DUE.onlyThinks(call, Due::full, act, act.applyAsInt(Due.full()));
    }

    // ---- only thought

    private static void onlyThought() {
        withFull("then(60, -1)", x -> x.then(60, -1));
        withFull("then(1, 5)", x -> x.then(1, 5));
        withFull("when(1)", x -> x.when(1));
        withFull("turning(0)", x -> x.turning(0));
        withFull("moves(0)", x -> x.moves(0));
        withFull("power(5)", x -> x.power(5));
        DUE.refuses("fits(0, 0) of 40", Due::full, x -> x.fits(0, 0), NONE);
        DUE.onlyThinks("fits(0, 0)", Due::furnished, x -> x.fits(0, 0), Due.furnished().fits(0, 0));
        withFull("parts(0)", x -> x.parts(0));
        withFull("parts(1)", x -> x.parts(1));
        withFull("faster(0, 3)", x -> x.faster(0, 3));
        withFull("seatless()", ChairViews::seatless);
    }

    private static ChairViews last(String text) {
        ChairViews x = Due.late(9999);
        Due.textOf(x, 0, text);
        return x;
    }

    private static void beyondTheLast() {
        DUE.onlyThinks("then(1, -1), weighed at 9999", () -> last("s>9999"), x -> x.then(1, -1), 0);
        DUE.onlyThinks("then(2, -1), weighed at 10000", () -> last("s>9999"), x -> x.then(2, -1), 1);
        DUE.onlyThinks("then(60, -1), weighed at 10058", () -> last("s=9999+59"), x -> x.then(60, -1), 1);
        DUE.onlyThinks("when(0)", () -> last("s<9999"), x -> x.when(0), 0);
        ChairViews x = last("s=9999+59");
        DUE.is("sittings(1)", x.sittings(1), Due.STATE);
        Due.textOf(x, 0, "s>9999+18");
        for (int i = 0; i < 20; i++) {
            x.tell(i < 19 ? 0 : 1);
        }
        DUE.is("check() of 20", x.check(), 0);
        DUE.is("SITTING", x.count(2), 9999);
    }

    private static void behind() {
        Supplier<ChairViews> late = () -> weighing("s=59");
        DUE.onlyThinks("then(0, -1)", late, x -> x.then(0, -1), 0);
        DUE.onlyThinks("then(59, -1)", late, x -> x.then(59, -1), 0);
        DUE.onlyThinks("then(60, -1)", late, x -> x.then(60, -1), 1);
        DUE.onlyThinks("then(0, 0)", () -> rows(1, 3), x -> x.then(0, 0), 3);
        DUE.onlyThinks("then(1, 0)", () -> rows(1, 3), x -> x.then(1, 0), 5);
        DUE.within("then(v, -1)", 0, 60, Due::furnished, (x, v) -> x.then(v, -1));
    }

    private static void first() {
        for (int sitting : new int[] {0, 1, 58, 59}) {
            String text = "s=" + sitting;
            DUE.onlyThinks("when(0), " + text, () -> weighing(text), x -> x.when(0), sitting + 1);
        }
        DUE.is("when(0), of two", weighing("s=7|s=20").when(0), 8);
        ChairViews now = weighing("s<1");
        now.sittings(1);
        DUE.onlyThinks("when(0), a law now", () -> {
            ChairViews x = weighing("s<1");
            x.sittings(1);
            return x;
        }, x -> x.when(0), 0);
        now.sittings(1);
        DUE.is("when(0), a law no more", now.when(0), NONE);
        DUE.is("when(7)", Due.seated(Due.withChairs(0, 128), -1).when(7), 1);
    }

    private static void turns() {
        DUE.is("one against, to PASS", rows(0, 0).turning(0), 1);
        DUE.is("one for, not to PASS", rows(6, 5).turning(0), 32);
        DUE.is("1 to 1: it doesn't PASS, one against", rows(1, 0, 5).turning(0), 1);
        DUE.is("2 to 1: one for", rows(2, 0, 4, 5).turning(0), 16);
        DUE.is("6 against: 4", rows(0, 0, 1, 2, 3, 4, 5).turning(0), 0b001111);
        DUE.is("6 for: 3 will do", rows(6, 0, 1, 2, 3, 4, 5).turning(0), 0b000111);
        DUE.is("5 for: 3", rows(6, 1, 2, 3, 4, 5).turning(0), 0b001110);
        ChairViews cushioned = rows(0, 0, 1, 2);
        cushioned.stuff(0, 1, 1);
        DUE.is("a CUSHION that goes is one, too", cushioned.turning(0), 0b010);
        cushioned.stuff(1, 1, 1);
        DUE.is("a CUSHION that goes", cushioned.turning(0), 0b001);
        ChairViews heavy = rows(0, 0, 1, 2);
        heavy.stuff(2, 0, 0b1111_1110);
        Due.textOf(heavy, 0, "k+1");
        DUE.is("one alone, who is last", heavy.turning(0), 0b100);
        ChairViews fewest = weights(2, 2, 4, 1);
        fewest.stuff(3, 1, 128);
        DUE.is("one of 4, rather than two of 2, whose set is less", fewest.turning(7), 0b0100);
        fewest.stuff(2, 1, 128);
        DUE.is("the way back", fewest.turning(7), 0b0100);
    }

    private static void leastTurns() {
        DUE.is("2 of 3", rows(0, 1, 3, 5).turning(0), 0b001010);
        DUE.is("2 of 3, by numbers of CHAIRS", rows(0, 5, 3, 1).turning(0), 0b001010);
        DUE.is("1 of 1", rows(0, 4).turning(0), 0b010000);
        DUE.is("1 of 2", rows(6, 2, 5).turning(7), 0b100100);
        DUE.is("those taken alone", rows(6, 2, 5).turning(0), 0b000100);
    }

    // ---- who moves

    private static void movesNone() {
        DUE.is("1 to 0", rows(1, 5).moves(0), 0);
        DUE.is("2 to 1", rows(2, 5, 4, 0).moves(0), 0);
        DUE.is("6 to 0", rows(6, 0, 1, 2, 3, 4, 5).moves(0), 0);
        DUE.is("1 to 1 doesn't", rows(2, 5, 0).moves(0), 1);
        DUE.is("0 to 0 doesn't", rows(1, -1).moves(0), 1);
    }

    private static void movesOne() {
        DUE.is("one who sat goes", rows(1, 0).moves(0), 1);
        DUE.is("one who stood sits down", rows(1, -1).moves(0), 1);
        DUE.is("one stands up", rows(1, 0, 5).moves(0), 1);
        DUE.is("none is free: one stands up", rows(3, 0, 1, 2, 3, 4, 5).moves(0), 1);
        DUE.is("none is for it", rows(0, 0).moves(0), NONE);
        DUE.is("2 against: one who goes makes it 1 to 1", rows(1, 0, 1).moves(0), 2);
        ChairViews glue = Due.seated(Due.withChairs(20, 0, 40, 1), 0, -1);
        DUE.is("one sits down AT the one that glue looks at", glue.moves(0), 1);
    }

    private static void movesTwo() {
        DUE.is("2 against: both go", rows(2, 0, 1).moves(0), 2);
        DUE.is("2 against, one to go to: one goes, one stands up", rows(1, 0, 1).moves(0), 2);
        DUE.is("1 to 3: one goes, one stands up", rows(2, 0, 1, 2, 5).moves(0), 2);
        DUE.is("1 to 3, 2 being free", rows(3, 0, 1, 2, 5).moves(0), 2);
        DUE.is("2 to 4, all being taken: two who stand up leave 2 to 2", rows(2, 0, 1, 2, 3, 4, 5).moves(0), NONE);
        DUE.is("2 to 3, one being free: two stand up", rows(2, 0, 1, 2, 4, 5).moves(0), 2);
        ChairViews place = Due.seated(Due.withChairs(20, 0, 40, 1), -1, -1);
        DUE.is("two who stood sit down", place.moves(0), 2);
    }

    // ---- power

    /** CHAIRS that weigh these numbers, all taken. */
    private static ChairViews weights(int... weights) {
        ChairViews x = new ChairViews();
        StringBuilder text = new StringBuilder("0");
        for (int i = 0; i < weights.length; i++) {
            x.chair(0, (1 << i) - 1);
            x.sit(x.member(0), i);
            text.append("+(k=").append(i).append(")*").append(weights[i]);
        }
        DUE.is("the TEXT " + text, Due.textOf(x, 0, text.toString()), 1);
        return x;
    }

    private static void half() {
        DUE.is("alone", weights(7).power(0), 1);
        DUE.is("alone, 0", weights(0).power(0), 0);
        DUE.is("1 of 1, 1: just half isn't more, just half is no more", weights(1, 1).power(0), 1);
        DUE.is("2 of 2, 1", weights(2, 1).power(0), 2);
        DUE.is("1 of 2, 1", weights(2, 1).power(1), 0);
        DUE.is("3 of 3, 2, 1", weights(3, 2, 1).power(0), 3);
        DUE.is("4 of 4, 2, 1", weights(4, 2, 1).power(0), 4);
        DUE.is("2 of 2, 2, 1: an odd sum", weights(2, 2, 1).power(0), 2);
        DUE.is("1 of 2, 2, 1", weights(2, 2, 1).power(2), 2);
        DUE.is("0 of 1, 0", weights(1, 0).power(1), 0);
        DUE.is("1 of 6 alike", rows(0, 0, 1, 2, 3, 4, 5).power(5), 10);
        ChairViews some = rows(0, 1, 3, 5);
        DUE.is("CHAIRS at which nobody is don't count", some.power(1), 2);
        some.sit(0, -1);
        DUE.is("of two", some.power(3), 1);
    }

    // ---- which sets fit

    /** CHAIRS 0 to 3 that weigh 1, 2, 4, 8 and are for BILL 0 but the last, and who sits where. */
    private static ChairViews fitting(int... at) {
        ChairViews x = Due.withChairs(0, 1, 0, 3, 0, 7, 0, 30);
        Due.textOf(x, 0, "(k=1)+(k=2)*2+(k=3)*4+(k=4)*8");
        return Due.seated(x, at);
    }

    private static ChairViews sheeted(ChairViews x, int bits, int... numbers) {
        x.sheet(0, bits, numbers.length);
        Due.putAll(x, 0, numbers);
        return x;
    }

    private static void howBillsWent() {
        DUE.is("no numbers: all sets of 2", sheeted(fitting(0, 1), 8).fits(0, 0), 6);
        DUE.is("BILL 0", sheeted(fitting(0, 1), 8, 3).fits(0, 1), 0b0011);
        DUE.is("below 0", sheeted(fitting(0, 1), 8, -7).fits(0, 1), 0b1001);
        DUE.is("BILLS 0, 1", sheeted(fitting(0, 1), 8, 3, 1).fits(0, 1), 0b0011);
        DUE.is("BILL 1 went otherwise", sheeted(fitting(0, 1), 8, 3, 2).fits(0, 0), 0);
        DUE.is("BILL 0 went otherwise", sheeted(fitting(0, 1), 8, 2, 1).fits(0, 0), 0);
        DUE.is("8 BILLS", sheeted(fitting(0, 1), 8, 3, 1, -3, -3, -3, -3, -3, -3).fits(0, 1), 0b0011);
        DUE.is("BILL 7 went otherwise", sheeted(fitting(0, 1), 8, 3, 1, -3, -3, -3, -3, -3, 3).fits(0, 0), 0);
        DUE.is("of 16 bits", sheeted(fitting(0, 1), 16, -7).fits(0, 1), 0b1001);
        DUE.is("of 32 bits", sheeted(fitting(0, 1), 32, -7).fits(0, 1), 0b1001);
        DUE.is("of 32 bits, unlike beyond 16", sheeted(fitting(0, 1), 32, 65536 + 3).fits(0, 0), 0);
    }

    private static void setsThatFit() {
        DUE.is("none taken", sheeted(fitting(), 8).fits(0, 0), 1);
        DUE.is("none taken: the empty one", sheeted(fitting(), 8, 0).fits(0, 1), 0);
        DUE.is("1 taken", sheeted(fitting(3), 8).fits(0, 0), 4);
        DUE.is("1 taken: the least", sheeted(fitting(3), 8).fits(0, 1), 1);
        DUE.is("3 taken", sheeted(fitting(0, 1, 3), 8).fits(0, 0), 4);
        DUE.is("3 taken: the least", sheeted(fitting(0, 1, 3), 8).fits(0, 1), 0b0111);
        DUE.is("all taken", sheeted(fitting(0, 1, 2, 3), 8, -1).fits(0, 1), 0b1111);
        DUE.is("all taken, it went otherwise", sheeted(fitting(0, 1, 2, 3), 8, 1).fits(0, 0), 0);
        DUE.is("6 over 3", sheeted(rows(0, 0, 1, 2), 8, -3).fits(0, 0), 20);
        DUE.is("6 of 6", sheeted(rows(0, 0, 1, 2, 3, 4, 5), 8, -6).fits(0, 1), 63);
        DUE.is("of several the least", sheeted(rows(2, 0), 8, 1).fits(0, 1), 16);
        ChairViews glue = sheeted(Due.seated(Due.withChairs(20, 1, 40, 0, 40, 0), 1, 2), 8, -1);
        DUE.is("glue by who would sit there", glue.fits(0, 1), 0b011);
        glue.put(0, 0, 1);
        DUE.is("glue by who wouldn't", glue.fits(0, 1), 0b101);
    }

    private static void mostUnlike() {
        DUE.is("no CHAIRS", new ChairViews().parts(1), 1);
        DUE.is("nobody sits: one set", rows(3).parts(1), 1);
        DUE.is("all sit: one set", rows(3, 0, 1, 2, 3, 4, 5).parts(1), 1);
        DUE.is("1 of 4: 1, 2, 4, -8", fitting(0).parts(1), 4);
        DUE.is("1 of 4, BILL 0 being the least", fitting(0).parts(0), 0);
        DUE.is("2 of 6: -2, 0, 2", rows(3, 0, 1).parts(1), 3);
        DUE.is("1 of 6 without a TEXT: -1, 1", rows(3, 0).parts(1), 2);
        ChairViews last = rows(0, 0);
        last.stuff(5, 0, 128);
        DUE.is("BILL 7 alone", last.parts(0), 7);
        last.stuff(4, 0, 128);
        last.become(4, 40);
        DUE.is("BILL 7, of 3 numbers", last.parts(0), 7);
        DUE.is("-1, 0, 1", last.parts(1), 3);
        ChairViews wet = Due.seated(Due.withChairs(18, 0, 0, 0), 0);
        DUE.is("8 is no BILL that a WET one could say nothing on", wet.parts(1), 1);
        wet.become(0, 17);
        DUE.is("7 is", wet.parts(0), 7);
        ChairViews most = weights(32, 16, 8, 4, 2);
        most.chair(0, 31);
        most.sit(3, -1);
        most.sit(4, -1);
        DUE.is("3 of 6: 20, one weighing nothing", most.parts(1), 20);
    }

    private static void leastParts() {
        DUE.is("no CHAIRS", new ChairViews().parts(0), 0);
        DUE.is("all alike", rows(0, 0).parts(0), 0);
        ChairViews two = rows(0, 0);
        two.stuff(0, 0, 0b1100_0000);
        DUE.is("6 and 7", two.parts(0), 6);
        two.stuff(3, 0, 0b0000_0010);
        DUE.is("1, 6 and 7", two.parts(0), 1);
    }

    // ---- who gets a chair

    private static ChairViews racing(int speedOfOther) {
        ChairViews x = Due.seated(Due.withChairs(0, 1, 0, 0), -1, -1);
        x.change(0, 0, speedOfOther);
        return x;
    }

    private static void leastSpeed() {
        DUE.is("0 will do", racing(10).faster(1, 1), 0);
        DUE.is("one of 0, of a lesser number", racing(0).faster(1, 0), 1);
        DUE.is("one of 98", racing(98).faster(1, 0), 99);
        DUE.is("one of 99", racing(99).faster(1, 0), NONE);
        ChairViews greater = racing(5);
        greater.change(1, 0, 99);
        DUE.is("one of 99, of a greater number", greater.faster(0, 0), 99);
        greater.change(1, 0, 0);
        DUE.is("one of 0, of a greater number", greater.faster(0, 0), 0);
        ChairViews zeal = rows(0, -1);
        Due.textOf(zeal, 1, "(v=99)*n");
        DUE.is("by a ZEAL of SPEED 99", zeal.faster(0, 5), 99);
        DUE.is("by a ZEAL of any other", zeal.faster(0, 0), 0);
        DUE.is("by none", zeal.faster(0, 4), NONE);
        Due.textOf(zeal, 1, "(v=100)*n");
        DUE.is("by a ZEAL of SPEED 100", zeal.faster(0, 5), NONE);
    }

    private static void whoStand() {
        DUE.is("6 of 6 sit", rows(0, -1, -1, -1, -1, -1, -1).seatless(), 0);
        ChairViews five = Due.seated(Due.withChairs(0, 0, 0, 0, 0, 0, 0, 0, 0, 0), -1, -1, -1, -1, -1, -1);
        DUE.is("the last of 6", five.seatless(), 32);
        five.change(0, 0, 9);
        DUE.is("the first, who is slow", five.seatless(), 1);
        DUE.is("all of 6", Due.seated(new ChairViews(), -1, -1, -1, -1, -1, -1).seatless(), 63);
        DUE.is("one of one", Due.seated(new ChairViews(), -1).seatless(), 1);
        DUE.is("nobody", rows(0).seatless(), 0);
    }

    // ---- promises 19 to 27

    private static void then() {
        DUE.is("LAWS now", new ChairViews().then(0, -1), 0);
        DUE.is("LAWS", rows(6, -1).then(1, -1), 1);
        ChairViews x = Due.seated(Due.withChairs(0, 1, 0, 2), -1, -1, -1, -1, -1, -1);
        x.sit(5, 0);
        DUE.is("where the last one is", x.then(0, 5), 0);
        DUE.is("where he is then", x.then(1, 5), -1);
        DUE.is("where the first one is", x.then(0, 0), -1);
        DUE.is("where he is then", x.then(60, 0), 0);
        ChairViews wearing = Due.seated(Due.withChairs(0, 0), 0);
        wearing.stuff(0, 1, 255);
        DUE.is("CUSHIONS wear", wearing.then(8, -1), 128);
        DUE.is("CUSHIONS wear", wearing.then(9, -1), 0);
    }

    private static void thenBeyond() {
        DUE.within("then(v, -1)", 0, 60, Due::furnished, (x, v) -> x.then(v, -1));
        DUE.within("then(0, v)", -1, 2, Due::furnished, (x, v) -> x.then(0, v));
        DUE.within("then(60, v)", -1, 5, Due::full, (x, v) -> x.then(60, v));
        DUE.within("then(0, v) without MEMBERS", -1, -1, ChairViews::new, (x, v) -> x.then(0, v));
    }

    private static void whenBeyond() {
        DUE.bills("when(v)", ChairViews::when);
        DUE.beyond("when(v), ahead of NONE", ChairViews::new, ChairViews::when, -1, 8);
    }

    private static void whenNone() {
        DUE.onlyThinks("by 60", () -> weighing("s=59"), x -> x.when(0), 60);
        DUE.refuses("by 61", () -> weighing("s=60"), x -> x.when(0), NONE);
        DUE.refuses("never", () -> weighing("1"), x -> x.when(7), NONE);
        DUE.refuses("nobody", ChairViews::new, x -> x.when(0), NONE);
    }

    private static void turning() {
        DUE.onlyThinks("one of one", () -> rows(0, 0), x -> x.turning(7), 1);
        DUE.onlyThinks("the last", () -> rows(0, 5), x -> x.turning(0), 32);
        DUE.onlyThinks("4 of 6", () -> rows(0, 0, 1, 2, 3, 4, 5), x -> x.turning(0), 0b001111);
        ChairViews all = rows(0, 0, 1, 2, 3, 4, 5);
        for (int chair = 0; chair < 6; chair++) {
            all.stuff(chair, 0, chair == 5 ? 1 : 0b11110);
        }
        Due.textOf(all, 0, "k=1|c*0");
        DUE.is("the heavy one alone", all.turning(0), 32);
    }

    private static void turningBeyond() {
        DUE.bills("turning(v)", ChairViews::turning);
        DUE.beyond("turning(v), ahead of NONE", ChairViews::new, ChairViews::turning, -1, 8);
    }

    private static void turningNone() {
        DUE.refuses("no CHAIRS", ChairViews::new, x -> x.turning(0), NONE);
        DUE.refuses("nobody sits", () -> rows(0), x -> x.turning(0), NONE);
        DUE.refuses("all say nothing", () -> Due.seated(Due.withChairs(40, 0, 10, 0), 0, 1), x -> x.turning(0), NONE);
        DUE.refuses("REPAIRED, 4 VIEWS", () -> Due.seated(Due.withChairs(30, 15), 0), x -> x.turning(0), NONE);
        DUE.refuses("all weigh nothing", () -> weighing("0"), x -> x.turning(0), NONE);
    }

    private static void movesBeyond() {
        DUE.bills("moves(v)", ChairViews::moves);
        DUE.beyond("moves(v), ahead of NONE", ChairViews::new, ChairViews::moves, -1, 8);
    }

    private static void movesNotByTwo() {
        DUE.onlyThinks("by 2", () -> rows(2, 0, 1, 2), x -> x.moves(0), 2);
        DUE.refuses("3 to 0, one to go to", () -> rows(1, 0, 1, 2), x -> x.moves(0), NONE);
        DUE.onlyThinks("3 to 0, three to go to", () -> rows(3, 0, 1, 2), x -> x.moves(0), 2);
        DUE.refuses("4 to 0", () -> rows(2, 0, 1, 2, 3), x -> x.moves(0), NONE);
        DUE.refuses("none is for it", () -> rows(0, 0, 1), x -> x.moves(0), NONE);
        DUE.refuses("no CHAIRS", () -> Due.seated(new ChairViews(), -1, -1), x -> x.moves(0), NONE);
        DUE.refuses("no MEMBERS", () -> rows(6), x -> x.moves(0), NONE);
        DUE.refuses("no MEMBERS, no CHAIRS", ChairViews::new, x -> x.moves(0), NONE);
    }

    private static void powerBeyond() {
        DUE.chairs("power(v)", ChairViews::power);
        DUE.beyond("power(v), ahead of STATE", () -> rows(0), ChairViews::power, -1, 6);
    }

    private static void powerState() {
        DUE.refuses("nobody sits", () -> rows(0), x -> x.power(0), Due.STATE);
        DUE.refuses("the last", () -> rows(0, 0, 1, 2, 3, 4, -1), x -> x.power(5), Due.STATE);
        DUE.onlyThinks("it is taken", () -> rows(0, 0, 1, 2, 3, 4, -1), x -> x.power(4), 6);
    }

    private static void fits() {
        DUE.onlyThinks("how many", () -> sheeted(rows(3, 0, 5), 8, 0), x -> x.fits(0, 0), 9);
        DUE.onlyThinks("the least", () -> sheeted(rows(3, 0, 5), 8, 0), x -> x.fits(0, 1), 0b001001);
        DUE.onlyThinks("none: 0", () -> sheeted(rows(3, 0, 5), 8, 1), x -> x.fits(0, 0), 0);
        ChairViews last = rows(3, 0, 5);
        last.sheet(3, 32, 1);
        DUE.is("SHEET 3", last.fits(3, 0), 9);
    }

    private static void fitsBeyond() {
        DUE.sheets("fits(v, 0)", (x, v) -> x.fits(v, 0));
        DUE.within("fits(0, v)", 0, 1, Due::furnished, (x, v) -> x.fits(0, v));
        DUE.beyond("fits(3, v), ahead of NONE: missing", Due::furnished, (x, v) -> x.fits(3, v), -1, 2);
        DUE.beyond("fits(1, v), ahead of NONE: 9 numbers", Due::furnished, (x, v) -> x.fits(1, v), -1, 2);
    }

    private static void fitsNone() {
        for (int sheet = 0; sheet < 4; sheet++) {
            int missing = sheet;
            DUE.refuses("missing", ChairViews::new, x -> x.fits(missing, 0), NONE);
        }
        DUE.refuses("missing, the least", ChairViews::new, x -> x.fits(0, 1), NONE);
        DUE.onlyThinks("8 numbers", () -> sheeted(rows(0), 8, new int[8]), x -> x.fits(0, 0), 1);
        DUE.refuses("9 numbers", () -> sheeted(rows(0), 8, new int[9]), x -> x.fits(0, 0), NONE);
        DUE.refuses("9 numbers, the least", () -> sheeted(rows(0), 8, new int[9]), x -> x.fits(0, 1), NONE);
        DUE.refuses("40 numbers", Due::full, x -> x.fits(0, 0), NONE);
    }

    private static void fitsNoSet() {
        DUE.refuses("the least of none", () -> sheeted(rows(3, 0), 8, 0), x -> x.fits(0, 1), NONE);
        DUE.onlyThinks("how many", () -> sheeted(rows(3, 0), 8, 0), x -> x.fits(0, 0), 0);
        DUE.refuses("nobody sits", () -> sheeted(rows(3), 8, 1), x -> x.fits(0, 1), NONE);
        DUE.onlyThinks("nobody sits", () -> sheeted(rows(3), 8, 0), x -> x.fits(0, 1), 0);
    }

    private static void parts() {
        DUE.onlyThinks("the BILL", () -> fitting(0, 1), x -> x.parts(0), 0);
        DUE.onlyThinks("how many", () -> fitting(0, 1), x -> x.parts(1), 6);
        DUE.onlyThinks("the BILL of no CHAIRS", ChairViews::new, x -> x.parts(0), 0);
        DUE.onlyThinks("how many of no CHAIRS", ChairViews::new, x -> x.parts(1), 1);
    }

    private static void partsBeyond() {
        DUE.within("parts(v)", 0, 1, Due::furnished, ChairViews::parts);
        DUE.within("parts(v) without CHAIRS", 0, 1, ChairViews::new, ChairViews::parts);
    }

    private static void fasterBeyond() {
        DUE.members("faster(v, 0)", (x, v) -> x.faster(v, 0));
        DUE.chairs("faster(0, v)", (x, v) -> x.faster(0, v));
        DUE.beyond("faster(0, v) without CHAIRS", () -> Due.seated(new ChairViews(), -1),
            (x, v) -> x.faster(0, v), -1, 0);
        DUE.beyond("faster(v, 0) without MEMBERS", () -> rows(0), (x, v) -> x.faster(v, 0), -1, 0);
    }

    private static void fasterNone() {
        DUE.onlyThinks("by 99", () -> racing(98), x -> x.faster(1, 0), 99);
        DUE.refuses("by 100", () -> racing(99), x -> x.faster(1, 0), NONE);
        DUE.refuses("one that he never wants", () -> rows(1, -1), x -> x.faster(0, 3), NONE);
    }

    private static void seatless() {
        DUE.onlyThinks("nobody", ChairViews::new, ChairViews::seatless, 0);
        DUE.onlyThinks("all", () -> Due.seated(new ChairViews(), -1, -1), ChairViews::seatless, 3);
        DUE.onlyThinks("none of 6", Due::full, ChairViews::seatless, 0);
        DUE.onlyThinks("one who sits now", () -> Due.seated(Due.withChairs(0, 0), -1, 0), ChairViews::seatless, 2);
    }

    public static void main(String[] args) {
        sentences().runAll(DUE);
    }
}
