import java.util.function.ToIntBiFunction;

/** The sentences of Terms 1 on what chairs say and weigh, votes, runs, sittings; promises 14 to 18. */
public final class VoteEdgesTest {
    private static final Due DUE = new Due();

    static Sentences sentences() {
        return new Sentences().in("Terms 1")
            .hold("SAYS of a CHAIR on a BILL (1 for, -1 against, 0 nothing; only if somebody is AT it):",
                VoteEdgesTest::onlyIfSomebody)
            .hold("CHAIR: 1, if just one of VIEWS, CUSHION has it, else -1.", VoteEdgesTest::chairSays)
            .hold("WET: 0, if the number of the BILL is m; else as CHAIR.", VoteEdgesTest::wetSays)
            .hold("SOAKED: 0.", VoteEdgesTest::soakedSays)
            .hold("GLUED: what the one of the next number (0 behind the last) would SAY as a CHAIR,",
                VoteEdgesTest::gluedSays)
            .hold("if somebody is AT that one; else as CHAIR.", VoteEdgesTest::gluedAlone)
            .hold("REPAIRED: 1, if VIEWS have 4 BILLS or more; else as CHAIR.", VoteEdgesTest::repairedSays)
            .hold("CROWN: the other way round of what a REPAIRED one would.", VoteEdgesTest::crownSays)
            .hold("(Others as the KIND above.) WEIGHT:", VoteEdgesTest::benchSays)
            .hold("CHAIR: what the TEXT gives.", VoteEdgesTest::chairWeighs)
            .hold("BENCH: as GLUED, and 1 for each 3 in m (cut).", VoteEdgesTest::benchWeighs)
            .hold("CROWN: as REPAIRED, twice.", VoteEdgesTest::crownWeighs)
            .hold("(Others as the KIND above.)", VoteEdgesTest::othersWeigh)
            .hold("A VOTE on a BILL: FOR, AGAINST: WEIGHTS together of CHAIRS that SAY 1, -1.", VoteEdgesTest::sides)
            .hold("It PASSES, if FOR is more.", VoteEdgesTest::passes)
            .hold("LAWS: a set of BILLS (none at first).", VoteEdgesTest::laws)
            .hold("To RUN: all stand;", VoteEdgesTest::allStand)
            .hold("then MEMBERS, the greatest SPEED first (of several the least number):", VoteEdgesTest::fastest)
            .hold("takes of all CHAIRS at which nobody is the one with the greatest ZEAL "
                + "(what the other TEXT gives for it), of several the least;", VoteEdgesTest::dearest)
            .hold("if there is none, he stands.", VoteEdgesTest::noneLeft)
            .hold("A SITTING: all RUN;", VoteEdgesTest::runsFirst)
            .hold("then BILLS by numbers: one that PASSES is in LAWS, one that doesn't isn't.", VoteEdgesTest::voted)
            .hold("Then of each CHAIR at which somebody is the least BILL goes out of its CUSHION.",
                VoteEdgesTest::wear)
            .hold("SITTING (0 to 9999; 0 at first) is 1 more.", VoteEdgesTest::sitting)
            .in("Promise 14")
            .hold("On a BILL, as all sit now: what 0 FOR, 1 AGAINST, 2 whether it PASSES.", VoteEdgesTest::vote)
            .hold("BEYOND.", VoteEdgesTest::voteBeyond)
            .in("Promise 15")
            .hold("What a CHAIR SAYS on a BILL, and 1 (0 against, 1 nothing, 2 for).", VoteEdgesTest::says)
            .hold("BEYOND.", VoteEdgesTest::saysBeyond)
            .in("Promise 16")
            .hold("All RUN: how many sit.", VoteEdgesTest::run)
            .in("Promise 17")
            .hold("n (1 to 60) SITTINGS: LAWS.", VoteEdgesTest::sittings)
            .hold("BEYOND.", VoteEdgesTest::sittingsBeyond)
            .hold("STATE: SITTING would be above 9999.", VoteEdgesTest::sittingsState)
            .in("Promise 18")
            .hold("n (1 to 40) SITTINGS by draws: LAWS.", VoteEdgesTest::loose)
            .hold("BEYOND.", VoteEdgesTest::looseBeyond)
            .hold("STATE likewise.", VoteEdgesTest::looseState);
    }

    /** The BILLS on which a CHAIR says something (0 against, 1 nothing, 2 for), as a set. */
    private static int said(ChairViews x, int chair, int what) {
        int set = 0;
        for (int bill = 0; bill < 8; bill++) {
            set |= x.says(chair, bill) == what ? 1 << bill : 0;
        }
        return set;
    }

    private static void saysSets(String who, ChairViews x, int chair, int against, int nothing) {
        DUE.is(who + " against", said(x, chair, 0), against);
        DUE.is(who + " nothing", said(x, chair, 1), nothing);
        DUE.is(who + " for", said(x, chair, 2), 255 - against - nothing);
    }

    /** Somebody AT a CHAIR with these VIEWS and this CUSHION, and nobody AT the next. */
    private static ChairViews alone(int km, int views, int cushion) {
        ChairViews x = Due.withChairs(km, views, 0, 0);
        x.stuff(0, 1, cushion);
        return Due.seated(x, 0);
    }

    // ---- what chairs say

    private static void onlyIfSomebody() {
        for (int kind = 0; kind <= 6; kind++) {
            ChairViews x = Due.withChairs(10 * kind, 255, 0, 255);
            saysSets("nobody AT KIND " + kind, x, 0, 0, 255);
            DUE.is("FOR", x.vote(0, 0), 0);
            DUE.is("AGAINST", x.vote(0, 1), 0);
            Due.seated(x, 1);
            saysSets("somebody beside KIND " + kind, x, 0, 0, 255);
            x.sit(0, 0);
            DUE.is("somebody AT KIND " + kind + " says nothing", said(x, 0, 1), kind == 4 ? 255 : kind == 1 ? 1 : 0);
            x.sit(0, -1);
            saysSets("he stood up from KIND " + kind, x, 0, 0, 255);
        }
    }

    private static void chairSays() {
        saysSets("neither", alone(0, 0, 0), 0, 255, 0);
        saysSets("VIEWS alone", alone(0, 255, 0), 0, 0, 0);
        saysSets("CUSHION alone", alone(0, 0, 255), 0, 0, 0);
        saysSets("both", alone(0, 255, 255), 0, 255, 0);
        saysSets("some of each", alone(0, 0b1010_1100, 0b0110_1010), 0, 0b0011_1001, 0);
    }

    private static void wetSays() {
        for (int m = 0; m <= 9; m++) {
            int dry = m < 8 ? 255 - (1 << m) : 255;
            saysSets("m " + m, alone(10 + m, 0b0000_1111, 0b0011_0011), 0, 0b1100_0011 & dry, 255 - dry);
        }
    }

    private static void soakedSays() {
        for (int m = 0; m <= 9; m += 3) {
            saysSets("m " + m, alone(40 + m, 255, 0), 0, 0, 255);
            saysSets("m " + m, alone(40 + m, 0, 0), 0, 0, 255);
        }
    }

    private static void gluedSays() {
        for (int kind = 0; kind <= 6; kind++) {
            ChairViews x = Due.withChairs(10 * kind, 0b0000_1111, 29, 0b1111_0000, 20, 0);
            x.stuff(0, 1, 0b0000_0001);
            Due.seated(x, 0, 1, 2);
            saysSets("the last one, glued to KIND " + kind, x, 2, 0b1111_0001, 0);
            saysSets("glued to a GLUED one", x, 1, 255, 0);
        }
        ChairViews six = Due.withChairs(0, 1, 0, 0, 0, 0, 0, 0, 29, 0, 20, 64);
        Due.seated(six, 0, 4, 5);
        saysSets("5, glued to 0", six, 5, 254, 0);
        saysSets("4, glued to 5", six, 4, 191, 0);
    }

    private static void gluedAlone() {
        ChairViews x = Due.withChairs(20, 0b0000_1111, 0, 0b0101_0101, 20, 0b0011_0000);
        x.stuff(2, 1, 0b0001_0001);
        Due.seated(x, 0, 2);
        saysSets("1 is free", x, 0, 0b1111_0000, 0);
        saysSets("0 is taken", x, 2, 0b1111_0000, 0);
        x.sit(0, 1);
        saysSets("0 is free", x, 2, 0b1101_1110, 0);
        saysSets("glued to itself", Due.seated(Due.withChairs(20, 0b0101_0101), 0), 0, 0b1010_1010, 0);
    }

    private static void repairedSays() {
        saysSets("0 VIEWS", alone(30, 0, 0), 0, 255, 0);
        saysSets("3 VIEWS", alone(30, 0b1000_0011, 0), 0, 0b0111_1100, 0);
        saysSets("3 VIEWS, a CUSHION", alone(30, 0b1000_0011, 0b0000_1111), 0, 0b0111_0011, 0);
        saysSets("4 VIEWS", alone(30, 0b1100_0011, 0), 0, 0, 0);
        saysSets("4 VIEWS, a CUSHION", alone(30, 0b1100_0011, 255), 0, 0, 0);
        saysSets("5 VIEWS", alone(30, 0b0001_1111, 0), 0, 0, 0);
        saysSets("8 VIEWS", alone(30, 255, 255), 0, 0, 0);
    }

    private static void crownSays() {
        saysSets("0 VIEWS", alone(60, 0, 0), 0, 0, 0);
        saysSets("3 VIEWS", alone(60, 0b1000_0011, 0), 0, 0b1000_0011, 0);
        saysSets("3 VIEWS, a CUSHION", alone(60, 0b1000_0011, 0b0000_1111), 0, 0b1000_1100, 0);
        saysSets("4 VIEWS", alone(60, 0b1100_0011, 0), 0, 255, 0);
        saysSets("8 VIEWS", alone(60, 255, 255), 0, 255, 0);
    }

    private static void benchSays() {
        ChairViews x = Due.withChairs(50, 0b0000_1111, 69, 0b0101_0101);
        Due.seated(x, 0);
        saysSets("a BENCH beside a free one", x, 0, 0b1111_0000, 0);
        Due.seated(x, 1);
        saysSets("a BENCH beside a taken one", x, 0, 0b1010_1010, 0);
        ChairViews last = Due.seated(Due.withChairs(0, 1, 59, 2), 0, 1);
        saysSets("a BENCH behind which is 0", last, 1, 254, 0);
    }

    // ---- what chairs weigh

    private static void chairWeighs() {
        ChairViews x = Due.withChairs(9, 0b0000_0111);
        DUE.is("without a TEXT", x.ofChair(0, 5), 1);
        Due.textOf(x, 0, "k*30");
        DUE.is("90", x.ofChair(0, 5), 90);
        Due.textOf(x, 0, "0");
        DUE.is("0", x.ofChair(0, 5), 0);
        Due.textOf(x, 0, "99");
        DUE.is("99", x.ofChair(0, 5), 99);
    }

    private static void benchWeighs() {
        int[] more = {0, 0, 0, 1, 1, 1, 2, 2, 2, 3};
        for (int m = 0; m <= 9; m++) {
            ChairViews x = Due.withChairs(50 + m, 0, 20 + m, 0);
            DUE.is("m " + m + " without a TEXT", x.ofChair(0, 5), 1 + more[m]);
            Due.textOf(x, 0, "0");
            DUE.is("m " + m + " behind 0", x.ofChair(0, 5), more[m]);
            Due.textOf(x, 0, "99");
            DUE.is("m " + m + " behind 99", x.ofChair(0, 5), 99 + more[m]);
            DUE.is("a GLUED one's m " + m + " doesn't weigh", x.ofChair(1, 5), 99);
        }
    }

    private static void crownWeighs() {
        ChairViews x = Due.withChairs(69, 0, 39, 0);
        DUE.is("without a TEXT", x.ofChair(0, 5), 2);
        Due.textOf(x, 0, "0");
        DUE.is("twice 0", x.ofChair(0, 5), 0);
        Due.textOf(x, 0, "50");
        DUE.is("twice 50", x.ofChair(0, 5), 100);
        Due.textOf(x, 0, "100");
        DUE.is("twice 99", x.ofChair(0, 5), 198);
        DUE.is("a REPAIRED one once", x.ofChair(1, 5), 99);
    }

    private static void othersWeigh() {
        for (int kind = 0; kind <= 4; kind++) {
            ChairViews x = Due.withChairs(10 * kind + 9, 1);
            DUE.is("KIND " + kind + " without a TEXT", x.ofChair(0, 5), 1);
            Due.textOf(x, 0, "k*9");
            DUE.is("KIND " + kind, x.ofChair(0, 5), 9);
        }
    }

    // ---- votes

    private static void sides() {
        ChairViews x = Due.withChairs(60, 1, 59, 3, 40, 7, 0, 15, 0, 14, 10, 14);
        Due.textOf(x, 0, "k*10");
        DUE.is("FOR without anybody", x.vote(0, 0), 0);
        DUE.is("AGAINST without anybody", x.vote(0, 1), 0);
        Due.seated(x, 0, 1, 2, 3, 4, 5);
        DUE.is("FOR: a BENCH glued to a SOAKED one, and one more", x.vote(0, 0), 23 + 40);
        DUE.is("AGAINST: a CROWN, and one more", x.vote(0, 1), 20 + 30);
        x.sit(3, -1);
        DUE.is("FOR, one less", x.vote(0, 0), 23);
        Due.textOf(x, 0, "99");
        DUE.is("AGAINST", x.vote(0, 1), 198 + 99);
    }

    private static ChairViews split(String text) {
        ChairViews x = Due.seated(Due.withChairs(0, 0b0001, 0, 0b0110), 0, 1);
        Due.textOf(x, 0, text);
        return x;
    }

    private static void passes() {
        DUE.is("0 to 0, nobody", new ChairViews().vote(0, 2), 0);
        DUE.is("0 to 0, weighing nothing", split("0").vote(0, 2), 0);
        DUE.is("1 to 1", split("1").vote(0, 2), 0);
        DUE.is("1 to 0", split("k=1").vote(0, 2), 1);
        DUE.is("0 to 1", split("k=2").vote(0, 2), 0);
        DUE.is("50 to 49", split("51-k").vote(0, 2), 1);
        DUE.is("50 to 51", split("49+k").vote(0, 2), 0);
        DUE.is("99 to 99", split("99").vote(0, 2), 0);
    }

    private static void laws() {
        DUE.is("none at first", new ChairViews().count(3), 0);
        DUE.is("none at first, though one would pass", Due.seated(Due.withChairs(0, 255), 0).count(3), 0);
        for (int bill = 0; bill < 8; bill++) {
            DUE.is("BILL " + bill, Due.seated(Due.withChairs(0, 1 << bill), 0).sittings(1), 1 << bill);
        }
        DUE.is("all", Due.seated(Due.withChairs(0, 255), 0).sittings(1), 255);
        DUE.is("all, and no more, by a CROWN", Due.seated(Due.withChairs(60, 0), 0).sittings(1), 255);
    }

    // ---- runs

    private static void allStand() {
        ChairViews x = Due.seated(Due.withChairs(0, 0, 0, 0), 1, -1, 0);
        x.change(2, 0, 9);
        DUE.is("run()", x.run(), 2);
        DUE.are("whoever sat lost his CHAIR", Due.at(x), 0, 1, -1);
        ChairViews full = Due.full();
        for (int member = 0; member < 6; member++) {
            full.change(member, 0, 10 * member);
        }
        full.text(0);
        Due.textOf(full, 1, "0-n");
        full.run();
        DUE.are("all of 6", Due.at(full), 5, 4, 3, 2, 1, 0);
    }

    private static void fastest() {
        ChairViews x = Due.seated(Due.withChairs(0, 0, 0, 0, 0, 0, 0, 0, 0, 0, 0, 0), -1, -1, -1, -1, -1, -1);
        x.run();
        DUE.are("all alike: by numbers", Due.at(x), 0, 1, 2, 3, 4, 5);
        x.change(5, 0, 99);
        x.change(0, 0, 0);
        x.change(3, 0, 11);
        x.change(4, 0, 11);
        x.run();
        DUE.are("99, two of 11, two of 10, 0", Due.at(x), 5, 3, 4, 1, 2, 0);
        x.change(3, 0, 99);
        x.change(1, 0, 0);
        x.run();
        DUE.are("two of 99, 11, 10, two of 0", Due.at(x), 4, 5, 3, 0, 2, 1);
    }

    private static void dearest() {
        ChairViews x = Due.seated(Due.withChairs(0, 0, 0, 0, 0, 0), -1, -1, -1);
        Due.textOf(x, 1, "0");
        x.run();
        DUE.are("all alike", Due.at(x), 0, 1, 2);
        Due.textOf(x, 1, "0-99");
        x.run();
        DUE.are("all -99", Due.at(x), 0, 1, 2);
        Due.textOf(x, 1, "n-99");
        x.run();
        DUE.are("-99, -98, -97", Due.at(x), 2, 1, 0);
        Due.textOf(x, 1, "n>0");
        x.run();
        DUE.are("0, 1, 1", Due.at(x), 1, 2, 0);
        Due.textOf(x, 0, "99-k*9");
        x.run();
        DUE.are("the TEXT of WEIGHT doesn't matter", Due.at(x), 1, 2, 0);
    }

    private static void noneLeft() {
        ChairViews none = Due.seated(new ChairViews(), -1, -1);
        DUE.is("no CHAIRS", none.run(), 0);
        DUE.are("no CHAIRS", Due.at(none), -1, -1);
        ChairViews one = Due.seated(Due.withChairs(0, 0), -1, -1, 0, -1, -1, -1);
        one.change(5, 0, 11);
        DUE.is("one of 6", one.run(), 1);
        DUE.are("one of 6", Due.at(one), -1, -1, -1, -1, -1, 0);
        ChairViews enough = Due.seated(Due.withChairs(0, 0, 0, 0), -1, -1);
        DUE.is("just enough", enough.run(), 2);
        DUE.are("just enough", Due.at(enough), 0, 1);
        enough.member(0);
        DUE.is("one too many", enough.run(), 2);
        DUE.are("one too many", Due.at(enough), 0, 1, -1);
    }

    // ---- sittings

    private static void runsFirst() {
        ChairViews x = Due.seated(Due.withChairs(0, 1, 0, 2), 1);
        DUE.is("LAWS by where he runs to", x.sittings(1), 1);
        DUE.are("AT", Due.at(x), 0);
        ChairViews standing = Due.seated(Due.withChairs(0, 128), -1);
        DUE.is("one who stood", standing.sittings(1), 128);
        DUE.is("nobody", Due.withChairs(0, 255).sittings(1), 0);
    }

    private static void voted() {
        ChairViews x = Due.seated(Due.withChairs(0, 0b1000_0001), 0);
        DUE.is("the first and the last", x.sittings(1), 0b1000_0001);
        x.stuff(0, 0, 0b0111_1110);
        DUE.is("all others", x.sittings(1), 0b0111_1110);
        x.stuff(0, 0, 0);
        DUE.is("none", x.sittings(1), 0);
        DUE.is("LAWS", x.count(3), 0);
        ChairViews even = Due.seated(Due.withChairs(0, 1, 0, 0), 0, 1);
        DUE.is("as many for as against", even.sittings(1), 0);
    }

    private static void wear() {
        ChairViews x = Due.seated(Due.withChairs(0, 0, 0, 0, 40, 0, 0, 0), 3, -1, -1);
        x.stuff(1, 1, 0b1000_0000);
        x.stuff(2, 1, 0b1111_1111);
        x.stuff(3, 1, 0b0000_0010);
        x.sittings(1);
        DUE.are("none, the last, the first; nobody", Due.cushions(x), 0, 0, 0b1111_1110, 0b10);
        x.sittings(1);
        DUE.are("one at a time", Due.cushions(x), 0, 0, 0b1111_1100, 0b10);
        x.sittings(5);
        DUE.are("up to the last", Due.cushions(x), 0, 0, 0b1000_0000, 0b10);
        x.sittings(2);
        DUE.are("none is left", Due.cushions(x), 0, 0, 0, 0b10);
        ChairViews last = Due.seated(Due.withChairs(0, 0, 0, 0, 0, 0, 0, 0, 0, 0, 0, 1), -1);
        last.stuff(0, 1, 0b110);
        last.stuff(5, 1, 0b110);
        last.sittings(1);
        DUE.are("the last of 6, AT which is one of one", Due.cushions(last), 0b110, 0, 0, 0, 0, 0b100);
        ChairViews voted = Due.seated(Due.withChairs(0, 0), 0);
        voted.stuff(0, 1, 1);
        DUE.is("it counts in the VOTE ahead", voted.sittings(1), 1);
        DUE.is("and not behind it", voted.sittings(1), 0);
        voted.stuff(0, 1, 0b110);
        voted.run();
        DUE.are("a RUN alone wears nothing", Due.cushions(voted), 0b110);
    }

    private static void sitting() {
        ChairViews x = Due.seated(Due.withChairs(0, 1), 0);
        DUE.is("0 at first", x.count(2), 0);
        Due.textOf(x, 0, "s=0");
        DUE.is("the VOTE is weighed at 0", x.sittings(1), 1);
        DUE.is("1 more", x.count(2), 1);
        DUE.is("the VOTE is weighed at 1", x.sittings(1), 0);
        x.run();
        DUE.is("a RUN is none", x.count(2), 2);
        ChairViews late = Due.late(9998);
        DUE.is("9998", late.count(2), 9998);
        late.sittings(1);
        DUE.is("9999", late.count(2), 9999);
        DUE.is("no more", late.sittings(1), Due.STATE);
        DUE.is("9999 still", late.count(2), 9999);
    }

    // ---- promises 14 to 18

    private static void vote() {
        ChairViews x = Due.seated(Due.withChairs(0, 128, 60, 0, 0, 127), 0, 2);
        DUE.is("FOR BILL 7", x.vote(7, 0), 1);
        DUE.is("AGAINST BILL 7", x.vote(7, 1), 1);
        DUE.is("BILL 7", x.vote(7, 2), 0);
        x.sit(1, 1);
        DUE.is("FOR BILL 7, as all sit now", x.vote(7, 0), 3);
        DUE.is("AGAINST BILL 7", x.vote(7, 1), 0);
        DUE.is("BILL 7", x.vote(7, 2), 1);
        DUE.is("FOR BILL 0", x.vote(0, 0), 2);
        DUE.is("AGAINST BILL 0", x.vote(0, 1), 1);
        DUE.is("BILL 0", x.vote(0, 2), 1);
        DUE.onlyThinks("vote(0, 0)", Due::full, y -> y.vote(0, 0), sumFor(Due.full(), 0));
    }

    /** FOR of a BILL, by what each CHAIR says and weighs. */
    private static int sumFor(ChairViews x, int bill) {
        int sum = 0;
        for (int chair = 0; chair < x.count(0); chair++) {
            sum += x.says(chair, bill) == 2 ? x.ofChair(chair, 5) : 0;
        }
        return sum;
    }

    private static void voteBeyond() {
        DUE.bills("vote(v, 0)", (x, v) -> x.vote(v, 0));
        DUE.bills("vote(v, 2)", (x, v) -> x.vote(v, 2));
        DUE.within("vote(0, v)", 0, 2, Due::furnished, (x, v) -> x.vote(0, v));
        DUE.within("vote(0, v) without CHAIRS", 0, 2, ChairViews::new, (x, v) -> x.vote(0, v));
    }

    private static void says() {
        ChairViews x = Due.seated(Due.withChairs(17, 1), 0);
        DUE.is("against", x.says(0, 6), 0);
        DUE.is("nothing", x.says(0, 7), 1);
        DUE.is("for", x.says(0, 0), 2);
        x.sit(0, -1);
        DUE.is("nobody is AT it", x.says(0, 0), 1);
        DUE.onlyThinks("says(5, 7)", Due::full, y -> y.says(5, 7), 0);
        DUE.onlyThinks("says(5, 6)", Due::full, y -> y.says(5, 6), 2);
    }

    private static void saysBeyond() {
        DUE.chairs("says(v, 0)", (x, v) -> x.says(v, 0));
        DUE.bills("says(0, v)", (x, v) -> x.says(0, v));
    }

    private static void run() {
        DUE.is("nobody, nothing", new ChairViews().run(), 0);
        DUE.is("CHAIRS alone", Due.withChairs(0, 0).run(), 0);
        DUE.is("MEMBERS alone", Due.seated(new ChairViews(), -1).run(), 0);
        DUE.is("6 of 6", Due.full().run(), 6);
        DUE.is("2 MEMBERS, 3 CHAIRS", Due.seated(Due.withChairs(0, 0, 0, 0, 0, 0), -1, -1).run(), 2);
        DUE.is("3 MEMBERS, 2 CHAIRS", Due.seated(Due.withChairs(0, 0, 0, 0), -1, -1, -1).run(), 2);
        ChairViews x = Due.full();
        x.run();
        DUE.is("how many sit", x.count(4), 6);
        DUE.is("no SITTING", x.count(2), 0);
    }

    /** That a call holds from 1 up to so many SITTINGS. */
    private static void holds(ToIntBiFunction<ChairViews, Integer> call, int most) {
        ChairViews x = Due.seated(Due.withChairs(0, 5), 0);
        DUE.is("1", call.applyAsInt(x, 1), 5);
        DUE.is("SITTING", x.count(2), 1);
        DUE.is("the most", call.applyAsInt(x, most), 5);
        DUE.is("SITTING", x.count(2), 1 + most);
        DUE.is("LAWS", x.count(3), 5);
        ChairViews last = Due.seated(Due.withChairs(0, 1), 0);
        Due.textOf(last, 0, "s=" + (most - 1));
        DUE.is("the LAWS of the last", call.applyAsInt(last, most), 1);
        DUE.is("the LAWS of one more", call.applyAsInt(last, 1), 0);
    }

    private static void holdsBeyond(ToIntBiFunction<ChairViews, Integer> call, int most) {
        DUE.within("of a house", 1, most, Due::furnished, call);
        DUE.beyond("ahead of STATE", () -> Due.late(9999), call,
            0, most + 1, -1, Integer.MIN_VALUE, Integer.MAX_VALUE);
    }

    private static void holdsUpTo9999(ToIntBiFunction<ChairViews, Integer> call, int most) {
        for (int n : new int[] {1, 2, most - 1, most}) {
            DUE.refuses(n + ", one too many", () -> Due.late(10000 - n), x -> call.applyAsInt(x, n), Due.STATE);
            ChairViews x = Due.late(9999 - n);
            DUE.is(n + ", up to the last", call.applyAsInt(x, n), 1);
            DUE.is("SITTING", x.count(2), 9999);
        }
    }

    private static void sittings() {
        holds(ChairViews::sittings, 60);
        ChairViews x = Due.seated(Due.withChairs(0, 5), 0);
        x.sittings(60);
        DUE.is("no draws", x.count(9), 1);
        DUE.is("no draws", x.ofMember(0, 0), 10);
    }

    private static void sittingsBeyond() {
        holdsBeyond(ChairViews::sittings, 60);
    }

    private static void sittingsState() {
        holdsUpTo9999(ChairViews::sittings, 60);
    }

    private static void loose() {
        holds(ChairViews::loose, 40);
    }

    private static void looseBeyond() {
        holdsBeyond(ChairViews::loose, 40);
    }

    private static void looseState() {
        holdsUpTo9999(ChairViews::loose, 40);
    }

    public static void main(String[] args) {
        sentences().runAll(DUE);
    }
}
