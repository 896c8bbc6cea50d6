/** The sentences of Terms 1 that tell what chairs and members are, and of promises 1 to 10. */
public final class ChairEdgesTest {
    private static final Due DUE = new Due();
    private static final int BEYOND = Due.BEYOND;
    private static final int[] KIND_ABOVE = {-1, 0, 0, 0, 1, 2, 3};

    static Sentences sentences() {
        return new Sentences().in("Terms 1")
            .hold("BILLS 0 to 7.", ChairEdgesTest::bills)
            .hold("CHAIRS 0, 1, .. (at most 6),", ChairEdgesTest::chairs)
            .hold("of KINDS: 0 CHAIR; 1 WET, 2 GLUED, 3 REPAIRED under CHAIR; 4 SOAKED under WET; "
                + "5 BENCH under GLUED; 6 CROWN under REPAIRED;", ChairEdgesTest::kinds)
            .hold("with a number m (0 to 9),", ChairEdgesTest::numberOfChair)
            .hold("VIEWS (a set of BILLS that it is for; none at first),", ChairEdgesTest::views)
            .hold("a CUSHION (a set of BILLS of which it is the other way round; none at first).",
                ChairEdgesTest::cushion)
            .hold("MEMBERS 0, 1, .. (at most 6):", ChairEdgesTest::members)
            .hold("SPEED (0 to 99; 10 at first),", ChairEdgesTest::speed)
            .hold("HOBBY (a BILL),", ChairEdgesTest::hobby)
            .hold("AT a CHAIR, or standing (-1, at first);", ChairEdgesTest::at)
            .hold("no two AT one CHAIR.", ChairEdgesTest::noTwo)
            .in("Promise 1")
            .hold("All as at first;", ChairEdgesTest::allAsAtFirst)
            .hold("no CHAIRS, MEMBERS.", ChairEdgesTest::noChairsMembers)
            .in("Promise 2")
            .hold("A CHAIR (km: 10 times the KIND, and m) with VIEWS (0 to 255): its number.", ChairEdgesTest::chair)
            .hold("BEYOND.", ChairEdgesTest::chairBeyond)
            .hold("FULL.", ChairEdgesTest::chairFull)
            .in("Promise 3")
            .hold("Of a CHAIR: 0 KIND, 1 m, 2 VIEWS, 3 CUSHION, 4 who is AT it (-1: nobody), 5 WEIGHT.",
                ChairEdgesTest::ofChair)
            .hold("BEYOND.", ChairEdgesTest::ofChairBeyond)
            .in("Promise 4")
            .hold("VIEWS (what 0), CUSHION (1) of a CHAIR becomes v (0 to 255): what it was.", ChairEdgesTest::stuff)
            .hold("BEYOND.", ChairEdgesTest::stuffBeyond)
            .in("Promise 5")
            .hold("A CHAIR becomes one of a KIND, with m (km): the KIND that it was.", ChairEdgesTest::become)
            .hold("BEYOND.", ChairEdgesTest::becomeBeyond)
            .in("Promise 6")
            .hold("A CHAIR as one of a KIND: m.", ChairEdgesTest::as)
            .hold("BEYOND.", ChairEdgesTest::asBeyond)
            .hold("KIND: it isn't of that KIND, nor of one under it.", ChairEdgesTest::asKind)
            .in("Promise 7")
            .hold("A MEMBER with a HOBBY, who stands: the number.", ChairEdgesTest::member)
            .hold("BEYOND.", ChairEdgesTest::memberBeyond)
            .hold("FULL.", ChairEdgesTest::memberFull)
            .in("Promise 8")
            .hold("Of a MEMBER: 0 SPEED, 1 HOBBY, 2 AT (-1: he stands).", ChairEdgesTest::ofMember)
            .hold("BEYOND.", ChairEdgesTest::ofMemberBeyond)
            .in("Promise 9")
            .hold("SPEED (what 0), HOBBY (1) of a MEMBER becomes v: what it was.", ChairEdgesTest::change)
            .hold("BEYOND.", ChairEdgesTest::changeBeyond)
            .in("Promise 10")
            .hold("A MEMBER sits down AT a CHAIR, or stands up (-1): where he was.", ChairEdgesTest::sit)
            .hold("BEYOND.", ChairEdgesTest::sitBeyond)
            .hold("STATE: another one is AT it.", ChairEdgesTest::sitState);
    }

    // ---- Terms 1

    private static void bills() {
        ChairViews x = Due.seated(Due.withChairs(0, 0b1000_0001), 0);
        DUE.is("says(0, 0)", x.says(0, 0), 2);
        DUE.is("says(0, 7)", x.says(0, 7), 2);
        DUE.is("says(0, 6)", x.says(0, 6), 0);
        DUE.bills("member(v)", ChairViews::member);
        DUE.bills("change(0, 1, v)", (y, v) -> y.change(0, 1, v));
        DUE.bills("vote(v, 0)", (y, v) -> y.vote(v, 0));
        DUE.bills("says(0, v)", (y, v) -> y.says(0, v));
        DUE.bills("when(v)", ChairViews::when);
        DUE.bills("turning(v)", ChairViews::turning);
        DUE.bills("moves(v)", ChairViews::moves);
    }

    private static void chairs() {
        ChairViews x = new ChairViews();
        for (int i = 0; i < 6; i++) {
            DUE.is("chair", x.chair(0, 0), i);
            DUE.is("CHAIRS", x.count(0), i + 1);
        }
        DUE.is("one more", x.chair(0, 0), Due.FULL);
        DUE.is("CHAIRS", x.count(0), 6);
    }

    private static boolean isUnder(int kind, int wanted) {
        return kind == wanted || kind > 0 && isUnder(KIND_ABOVE[kind], wanted);
    }

    private static void kinds() {
        for (int kind = 0; kind <= 6; kind++) {
            ChairViews x = Due.withChairs(10 * kind + 5, 0);
            DUE.is("KIND " + kind, x.ofChair(0, 0), kind);
            for (int wanted = 0; wanted <= 6; wanted++) {
                DUE.is("KIND " + kind + " as " + wanted, x.as(0, wanted), isUnder(kind, wanted) ? 5 : Due.KIND);
            }
        }
        DUE.is("a KIND 7", new ChairViews().chair(70, 0), BEYOND);
    }

    private static void numberOfChair() {
        ChairViews x = Due.withChairs(0, 0);
        for (int kind = 0; kind <= 6; kind++) {
            x.become(0, 10 * kind);
            DUE.is("m 0 of KIND " + kind, x.ofChair(0, 1), 0);
            x.become(0, 10 * kind + 9);
            DUE.is("m 9 of KIND " + kind, x.ofChair(0, 1), 9);
        }
    }

    private static void views() {
        ChairViews x = Due.seated(Due.withChairs(0, 0), 0);
        DUE.is("none at first", x.ofChair(0, 2), 0);
        for (int bill = 0; bill < 8; bill++) {
            DUE.is("for BILL " + bill + " without VIEWS", x.says(0, bill), 0);
            x.stuff(0, 0, 1 << bill);
            DUE.is("for BILL " + bill, x.says(0, bill), 2);
            x.stuff(0, 0, 255 - (1 << bill));
            DUE.is("for all but BILL " + bill, x.says(0, bill), 0);
            x.stuff(0, 0, 0);
        }
    }

    private static void cushion() {
        ChairViews x = Due.seated(Due.withChairs(0, 0b0000_1111), 0);
        DUE.is("none at first", x.ofChair(0, 3), 0);
        for (int bill = 0; bill < 8; bill++) {
            x.stuff(0, 1, 1 << bill);
            DUE.is("BILL " + bill + " with a CUSHION", x.says(0, bill), bill < 4 ? 0 : 2);
            x.stuff(0, 1, 255 - (1 << bill));
            DUE.is("BILL " + bill + " with all but that", x.says(0, bill), bill < 4 ? 2 : 0);
        }
    }

    private static void members() {
        ChairViews x = new ChairViews();
        for (int i = 0; i < 6; i++) {
            DUE.is("member", x.member(0), i);
            DUE.is("MEMBERS", x.count(1), i + 1);
        }
        DUE.is("one more", x.member(0), Due.FULL);
        DUE.is("MEMBERS", x.count(1), 6);
    }

    private static void speed() {
        ChairViews x = Due.seated(new ChairViews(), -1);
        DUE.is("at first", x.ofMember(0, 0), 10);
        DUE.within("change(0, 0, v)", 0, 99, Due::furnished, (y, v) -> y.change(0, 0, v));
        x.change(0, 0, 0);
        DUE.is("0", x.ofMember(0, 0), 0);
        x.change(0, 0, 99);
        DUE.is("99", x.ofMember(0, 0), 99);
    }

    private static void hobby() {
        ChairViews x = new ChairViews();
        x.member(0);
        x.member(7);
        DUE.is("0", x.ofMember(0, 1), 0);
        DUE.is("7", x.ofMember(1, 1), 7);
        DUE.bills("member(v)", ChairViews::member);
    }

    private static void at() {
        ChairViews x = Due.withChairs(0, 0);
        x.member(0);
        DUE.is("standing, though a CHAIR is free", x.ofMember(0, 2), -1);
        DUE.is("nobody is AT it", x.ofChair(0, 4), -1);
        x.sit(0, 0);
        DUE.is("AT CHAIR 0", x.ofMember(0, 2), 0);
        DUE.is("MEMBER 0 is AT it", x.ofChair(0, 4), 0);
    }

    private static void noTwo() {
        ChairViews x = Due.seated(Due.withChairs(0, 0, 0, 0, 0, 0), 0, 1, -1, -1, -1, -1);
        for (int member = 2; member < 6; member++) {
            DUE.is("where MEMBER 0 is", x.sit(member, 0), Due.STATE);
        }
        DUE.is("where MEMBER 1 is, for MEMBER 0", x.sit(0, 1), Due.STATE);
        DUE.are("AT", Due.at(x), 0, 1, -1, -1, -1, -1);
        x.run();
        DUE.are("AT, behind a RUN", Due.at(x), 0, 1, 2, -1, -1, -1);
    }

    // ---- promise 1

    private static void allAsAtFirst() {
        ChairViews x = new ChairViews();
        for (int what = 0; what <= 9; what++) {
            DUE.is("count(" + what + ")", x.count(what), what == 9 ? 1 : 0);
        }
        DUE.are("told", Due.told(x), 0, 0, 0, 0, 0);
        DUE.is("WEIGHT without a TEXT", x.law(0, 5, 5, 5), 1);
        DUE.is("ZEAL without a TEXT", x.law(1, 1, 4, 5), 6);
        for (int sheet = 0; sheet < 4; sheet++) {
            DUE.is("SHEET " + sheet + " is missing", x.judge(sheet), Due.NONE);
        }
        DUE.is("no TRACE", x.trace(0), Due.NONE);
        DUE.is("no IMAGE", x.restore(), Due.NONE);
        DUE.is("nothing waits", x.check(), 0);
        DUE.is("the first IMAGE", x.image(), 1);
    }

    private static void noChairsMembers() {
        DUE.refuses("ofChair(0, 0)", ChairViews::new, x -> x.ofChair(0, 0), BEYOND);
        DUE.refuses("ofMember(0, 0)", ChairViews::new, x -> x.ofMember(0, 0), BEYOND);
        DUE.refuses("then(0, 0)", ChairViews::new, x -> x.then(0, 0), BEYOND);
        ChairViews x = new ChairViews();
        DUE.is("run()", x.run(), 0);
        DUE.is("seatless()", x.seatless(), 0);
        DUE.is("sittings(60)", x.sittings(60), 0);
        DUE.is("loose(40)", x.loose(40), 0);
        for (int bill = 0; bill < 8; bill++) {
            DUE.is("vote", x.vote(bill, 0) + x.vote(bill, 1) + x.vote(bill, 2), 0);
        }
        Due.furnished();
        DUE.is("a new one behind others", new ChairViews().count(0), 0);
    }

    // ---- promises 2 to 6

    private static void chair() {
        for (int km = 0; km <= 69; km++) {
            ChairViews x = new ChairViews();
            DUE.is("chair(" + km + ", ..)", x.chair(km, km), 0);
            DUE.is("KIND of " + km, x.ofChair(0, 0), km / 10);
            DUE.is("m of " + km, x.ofChair(0, 1), km % 10);
            DUE.is("VIEWS of " + km, x.ofChair(0, 2), km);
        }
        ChairViews x = new ChairViews();
        DUE.is("chair(69, 0)", x.chair(69, 0), 0);
        DUE.is("chair(0, 255)", x.chair(0, 255), 1);
        DUE.is("VIEWS", x.ofChair(0, 2), 0);
        DUE.is("VIEWS", x.ofChair(1, 2), 255);
    }

    private static void chairBeyond() {
        DUE.within("chair(v, 0)", 0, 69, Due::furnished, (x, v) -> x.chair(v, 0));
        DUE.within("chair(0, v)", 0, 255, Due::furnished, (x, v) -> x.chair(0, v));
    }

    private static void chairFull() {
        DUE.refuses("chair(0, 0)", Due::full, x -> x.chair(0, 0), Due.FULL);
        DUE.refuses("chair(69, 255)", Due::full, x -> x.chair(69, 255), Due.FULL);
        DUE.beyond("BEYOND ahead of it, km", Due::full, (x, v) -> x.chair(v, 0), -1, 70);
        DUE.beyond("BEYOND ahead of it, VIEWS", Due::full, (x, v) -> x.chair(0, v), -1, 256);
        ChairViews x = Due.full();
        x.restore();
        DUE.is("5 are not too many", x.chair(0, 0), 5);
        DUE.is("6 are", x.chair(0, 0), Due.FULL);
    }

    private static void ofChair() {
        ChairViews x = Due.full();
        int[][] due = {{0, 4, 1, 6, 4, 2}, {1, 3, 255, 0, 2, 9}, {5, 6, 6, 0, 1, 5},
            {6, 2, 7, 0, 0, 8}, {2, 9, 128, 0, 3, 2}, {3, 0, 112, 0, 5, 4}};
        for (int chair = 0; chair < 6; chair++) {
            for (int what = 0; what < 6; what++) {
                DUE.is("ofChair(" + chair + ", " + what + ")", x.ofChair(chair, what), due[chair][what]);
            }
        }
        x.stuff(5, 1, 255);
        DUE.is("CUSHION of the last", x.ofChair(5, 3), 255);
        x.sit(5, -1);
        DUE.is("nobody is AT it", x.ofChair(5, 4), -1);
        DUE.is("it weighs all the same", x.ofChair(5, 5), 4);
    }

    private static void ofChairBeyond() {
        DUE.chairs("ofChair(v, 0)", (x, v) -> x.ofChair(v, 0));
        DUE.within("ofChair(0, v)", 0, 5, Due::furnished, (x, v) -> x.ofChair(0, v));
        ChairViews x = Due.full();
        x.restore();
        DUE.is("one that an IMAGE doesn't have", x.ofChair(5, 0), BEYOND);
    }

    private static void stuff() {
        ChairViews x = Due.full();
        for (int chair = 0; chair < 6; chair += 5) {
            int views = x.ofChair(chair, 2);
            int cushion = x.ofChair(chair, 3);
            DUE.is("VIEWS", x.stuff(chair, 0, 255), views);
            DUE.is("VIEWS, all", x.stuff(chair, 0, 0), 255);
            DUE.is("VIEWS, none", x.stuff(chair, 0, 1), 0);
            DUE.is("CUSHION", x.stuff(chair, 1, 255), cushion);
            DUE.is("CUSHION, all", x.stuff(chair, 1, 0), 255);
            DUE.is("CUSHION, none", x.stuff(chair, 1, 128), 0);
            DUE.is("VIEWS stand", x.ofChair(chair, 2), 1);
            DUE.is("CUSHION stands", x.ofChair(chair, 3), 128);
        }
        DUE.is("VIEWS of the next", x.ofChair(1, 2), 255);
        DUE.is("CUSHION of the next", x.ofChair(1, 3), 0);
    }

    private static void stuffBeyond() {
        DUE.chairs("stuff(v, 0, 9)", (x, v) -> x.stuff(v, 0, 9));
        DUE.chairs("stuff(v, 1, 9)", (x, v) -> x.stuff(v, 1, 9));
        DUE.within("stuff(0, v, 9)", 0, 1, Due::furnished, (x, v) -> x.stuff(0, v, 9));
        DUE.within("stuff(0, 0, v)", 0, 255, Due::furnished, (x, v) -> x.stuff(0, 0, v));
        DUE.within("stuff(0, 1, v)", 0, 255, Due::furnished, (x, v) -> x.stuff(0, 1, v));
    }

    private static void become() {
        ChairViews x = Due.full();
        int kind = x.ofChair(5, 0);
        for (int km = 0; km <= 69; km++) {
            DUE.is("become(5, " + km + ")", x.become(5, km), kind);
            kind = km / 10;
            DUE.is("KIND", x.ofChair(5, 0), kind);
            DUE.is("m", x.ofChair(5, 1), km % 10);
        }
        DUE.is("VIEWS stay", x.ofChair(5, 2), 112);
        DUE.is("who is AT it stays", x.ofChair(5, 4), 5);
    }

    private static void becomeBeyond() {
        DUE.chairs("become(v, 9)", (x, v) -> x.become(v, 9));
        DUE.within("become(0, v)", 0, 69, Due::furnished, (x, v) -> x.become(0, v));
    }

    private static void as() {
        for (int kind = 0; kind <= 6; kind++) {
            for (int m = 0; m <= 9; m += 9) {
                ChairViews x = Due.withChairs(10 * kind + m, 0);
                DUE.is("as its own KIND " + kind, x.as(0, kind), m);
                DUE.is("as a CHAIR", x.as(0, 0), m);
                DUE.is("as one of the KIND above", x.as(0, Math.max(KIND_ABOVE[kind], 0)), m);
            }
        }
    }

    private static void asBeyond() {
        DUE.chairs("as(v, 0)", (x, v) -> x.as(v, 0));
        DUE.within("as(0, v)", 0, 6, Due::furnished, (x, v) -> x.as(0, v));
        DUE.beyond("ahead of KIND", Due::furnished, (x, v) -> x.as(v, 4), -1, 4);
    }

    private static void asKind() {
        DUE.refuses("a CHAIR as a WET one", Due::furnished, x -> x.as(0, 1), Due.KIND);
        DUE.refuses("a WET one as a SOAKED one", Due::furnished, x -> x.as(1, 4), Due.KIND);
        DUE.refuses("a BENCH as a WET one", Due::furnished, x -> x.as(2, 1), Due.KIND);
        DUE.refuses("a CROWN as a BENCH", Due::furnished, x -> x.as(3, 5), Due.KIND);
        ChairViews x = Due.furnished();
        x.become(3, 59);
        DUE.is("what it was", x.as(3, 6), Due.KIND);
        DUE.is("what it is", x.as(3, 5), 9);
    }

    // ---- promises 7 to 10

    private static void member() {
        ChairViews x = Due.withChairs(0, 255);
        for (int i = 0; i < 6; i++) {
            int hobby = i == 0 ? 7 : i - 1;
            DUE.is("member", x.member(hobby), i);
            DUE.is("HOBBY", x.ofMember(i, 1), hobby);
            DUE.is("SPEED", x.ofMember(i, 0), 10);
            DUE.is("who stands", x.ofMember(i, 2), -1);
        }
        DUE.is("nobody sits", x.count(4), 0);
    }

    private static void memberBeyond() {
        DUE.bills("member(v)", ChairViews::member);
    }

    private static void memberFull() {
        DUE.refuses("member(0)", Due::full, x -> x.member(0), Due.FULL);
        DUE.refuses("member(7)", Due::full, x -> x.member(7), Due.FULL);
        DUE.beyond("BEYOND ahead of it", Due::full, ChairViews::member, -1, 8);
        ChairViews x = Due.full();
        x.restore();
        DUE.is("5 are not too many", x.member(0), 5);
        DUE.is("6 are", x.member(0), Due.FULL);
    }

    private static void ofMember() {
        ChairViews x = Due.full();
        x.change(5, 0, 99);
        x.change(0, 0, 0);
        x.sit(1, -1);
        DUE.are("MEMBER 0", new int[] {x.ofMember(0, 0), x.ofMember(0, 1), x.ofMember(0, 2)}, 0, 0, 3);
        DUE.are("MEMBER 1", new int[] {x.ofMember(1, 0), x.ofMember(1, 1), x.ofMember(1, 2)}, 10, 0, -1);
        DUE.are("MEMBER 5", new int[] {x.ofMember(5, 0), x.ofMember(5, 1), x.ofMember(5, 2)}, 99, 3, 5);
    }

    private static void ofMemberBeyond() {
        DUE.members("ofMember(v, 0)", (x, v) -> x.ofMember(v, 0));
        DUE.within("ofMember(0, v)", 0, 2, Due::furnished, (x, v) -> x.ofMember(0, v));
    }

    private static void change() {
        ChairViews x = Due.full();
        for (int member = 0; member < 6; member += 5) {
            int hobby = x.ofMember(member, 1);
            DUE.is("SPEED", x.change(member, 0, 99), 10);
            DUE.is("SPEED, the greatest", x.change(member, 0, 0), 99);
            DUE.is("SPEED, the least", x.change(member, 0, 7), 0);
            DUE.is("HOBBY", x.change(member, 1, 7), hobby);
            DUE.is("HOBBY, the last", x.change(member, 1, 0), 7);
            DUE.is("HOBBY, the first", x.change(member, 1, 6), 0);
            DUE.is("SPEED stands", x.ofMember(member, 0), 7);
            DUE.is("HOBBY stands", x.ofMember(member, 1), 6);
        }
        DUE.is("SPEED of the next", x.ofMember(1, 0), 10);
    }

    private static void changeBeyond() {
        DUE.members("change(v, 0, 5)", (x, v) -> x.change(v, 0, 5));
        DUE.members("change(v, 1, 5)", (x, v) -> x.change(v, 1, 5));
        DUE.within("change(0, v, 5)", 0, 1, Due::furnished, (x, v) -> x.change(0, v, 5));
        DUE.within("change(0, 0, v)", 0, 99, Due::furnished, (x, v) -> x.change(0, 0, v));
        DUE.within("change(0, 1, v)", 0, 7, Due::furnished, (x, v) -> x.change(0, 1, v));
    }

    private static void sit() {
        ChairViews x = Due.seated(Due.withChairs(0, 0, 0, 0, 0, 0, 0, 0, 0, 0, 0, 0), -1, 3);
        DUE.is("he stood, and stands", x.sit(0, -1), -1);
        DUE.is("AT the first", x.sit(0, 0), -1);
        DUE.is("AT the last", x.sit(0, 5), 0);
        DUE.is("where he is", x.sit(0, 5), 5);
        DUE.are("AT", Due.at(x), 5, 3);
        DUE.is("the one that he left", x.sit(1, 0), 3);
        DUE.is("up", x.sit(0, -1), 5);
        DUE.are("AT", Due.at(x), -1, 0);
    }

    private static void sitBeyond() {
        DUE.members("sit(v, -1)", (x, v) -> x.sit(v, -1));
        DUE.within("sit(0, v)", -1, 3, Due::furnished, (x, v) -> x.sit(0, v));
        DUE.within("sit(0, v), all being taken", -1, 5, Due::full, (x, v) -> x.sit(0, v));
        DUE.within("sit(0, v) without CHAIRS", -1, -1, () -> Due.seated(new ChairViews(), -1), (x, v) -> x.sit(0, v));
        DUE.beyond("ahead of STATE", Due::full, (x, v) -> x.sit(v, 0), -1, 6);
    }

    private static void sitState() {
        DUE.refuses("one who stands", Due::furnished, x -> x.sit(2, x.ofMember(0, 2)), Due.STATE);
        DUE.refuses("one who sits", Due::furnished, x -> x.sit(1, x.ofMember(0, 2)), Due.STATE);
        DUE.refuses("the last CHAIR", Due::full, x -> x.sit(0, 5), Due.STATE);
        DUE.refuses("the first CHAIR", Due::full, x -> x.sit(5, 0), Due.STATE);
    }

    public static void main(String[] args) {
        sentences().runAll(DUE);
    }
}
