/** Promises 14 to 18: votes, what a chair says, runs, sittings, sittings by draws. */
public final class VotesSittingsTest {
    private static final Due DUE = new Due();
    private static final int BEYOND = Due.BEYOND;

    private static void vote() {
        ChairViews x = Due.withChairs(0, 1, 0, 1, 59, 2, 0, 255);
        Due.seated(x, 0, 1, 2);
        Due.textOf(x, 0, "k+2");
        DUE.is("14: FOR, 3 each", x.vote(0, 0), 6);
        DUE.is("14: AGAINST, a BENCH of m 9, the next one's CHAIR being free", x.vote(0, 1), 6);
        DUE.is("14: as many are not more", x.vote(0, 2), 0);
        DUE.is("14: FOR BILL 1", x.vote(1, 0), 6);
        DUE.is("14: AGAINST BILL 1", x.vote(1, 1), 6);
        x.stuff(2, 1, 3);
        DUE.is("14: FOR, by a CUSHION", x.vote(0, 0), 12);
        DUE.is("14: AGAINST", x.vote(0, 1), 0);
        DUE.is("14: PASSES", x.vote(0, 2), 1);
        x.become(2, 40);
        DUE.is("14: nothing said counts on neither side", x.vote(0, 0) * 100 + x.vote(0, 1), 600);
        x.sit(0, -1);
        x.sit(1, -1);
        DUE.is("14: nobody for", x.vote(0, 0), 0);
        DUE.is("14: 0 is not more than 0", x.vote(0, 2), 0);
        DUE.is("14: the last BILL", x.vote(7, 2), 0);
        ChairViews one = Due.seated(Due.withChairs(0, 1, 0, 1, 0, 0), 0, 1, 2);
        DUE.is("14: 1 more is more", one.vote(0, 2), 1);
        DUE.is("14: 1 less isn't", one.vote(1, 2), 0);
        DUE.refuses("14: vote(-1, 0)", Due::furnished, y -> y.vote(-1, 0), BEYOND);
        DUE.refuses("14: vote(8, 0)", Due::furnished, y -> y.vote(8, 0), BEYOND);
        DUE.refuses("14: vote(0, -1)", Due::furnished, y -> y.vote(0, -1), BEYOND);
        DUE.refuses("14: vote(0, 3)", Due::furnished, y -> y.vote(0, 3), BEYOND);
    }

    private static int[] allSaid(ChairViews x, int chair) {
        int[] said = new int[8];
        for (int bill = 0; bill < 8; bill++) {
            said[bill] = x.says(chair, bill);
        }
        return said;
    }

    /** What a CHAIR of a km SAYS: VIEWS 5, CUSHION 6, the next one (VIEWS 15) taken or free. */
    private static void saysAs(int km, boolean next, int... due) {
        ChairViews x = Due.withChairs(km, 5, 40, 15);
        x.stuff(0, 1, 6);
        Due.seated(x, 0, next ? 1 : -1);
        DUE.are("15: says as " + km + (next ? " beside one" : " alone"), allSaid(x, 0), due);
    }

    private static void says() {
        saysAs(0, true, 2, 2, 0, 0, 0, 0, 0, 0);
        saysAs(11, true, 2, 1, 0, 0, 0, 0, 0, 0);
        saysAs(17, true, 2, 2, 0, 0, 0, 0, 0, 1);
        saysAs(19, true, 2, 2, 0, 0, 0, 0, 0, 0);
        saysAs(20, true, 2, 2, 2, 2, 0, 0, 0, 0);
        saysAs(20, false, 2, 2, 0, 0, 0, 0, 0, 0);
        saysAs(30, true, 2, 2, 0, 0, 0, 0, 0, 0);
        saysAs(40, true, 1, 1, 1, 1, 1, 1, 1, 1);
        saysAs(50, true, 2, 2, 2, 2, 0, 0, 0, 0);
        saysAs(50, false, 2, 2, 0, 0, 0, 0, 0, 0);
        saysAs(60, true, 0, 0, 2, 2, 2, 2, 2, 2);
        DUE.refuses("15: says(-1, 0)", Due::furnished, y -> y.says(-1, 0), BEYOND);
        DUE.refuses("15: says(4, 0)", Due::furnished, y -> y.says(4, 0), BEYOND);
        DUE.refuses("15: says(0, -1)", Due::furnished, y -> y.says(0, -1), BEYOND);
        DUE.refuses("15: says(0, 8)", Due::furnished, y -> y.says(0, 8), BEYOND);
    }

    private static void saysMore() {
        ChairViews x = Due.withChairs(0, 15, 0, 0, 20, 2);
        DUE.are("15: nobody is AT it", allSaid(x, 0), 1, 1, 1, 1, 1, 1, 1, 1);
        Due.seated(x, 0, 2);
        DUE.are("15: 0 behind the last", allSaid(x, 2), 2, 2, 2, 2, 0, 0, 0, 0);
        x.become(0, 30);
        DUE.are("15: REPAIRED, 4 VIEWS", allSaid(x, 0), 2, 2, 2, 2, 2, 2, 2, 2);
        DUE.are("15: the next one as a CHAIR", allSaid(x, 2), 2, 2, 2, 2, 0, 0, 0, 0);
        x.become(0, 60);
        DUE.are("15: a CROWN, 4 VIEWS", allSaid(x, 0), 0, 0, 0, 0, 0, 0, 0, 0);
        x.stuff(0, 0, 7);
        DUE.are("15: a CROWN, 3 VIEWS", allSaid(x, 0), 0, 0, 0, 2, 2, 2, 2, 2);
        x.stuff(0, 1, 248);
        x.become(0, 30);
        DUE.are("15: CUSHIONS are no VIEWS", allSaid(x, 0), 2, 2, 2, 2, 2, 2, 2, 2);
        x.stuff(0, 1, 255);
        DUE.are("15: CUSHIONS are no VIEWS", allSaid(x, 0), 0, 0, 0, 2, 2, 2, 2, 2);
        ChairViews alone = Due.seated(Due.withChairs(20, 9), 0);
        DUE.are("15: glued to itself", allSaid(alone, 0), 2, 0, 0, 2, 0, 0, 0, 0);
    }

    private static void run() {
        ChairViews x = Due.withChairs(0, 0, 0, 4, 0, 4);
        x.member(2);
        x.member(2);
        x.member(3);
        x.member(2);
        x.change(1, 0, 50);
        x.sit(3, 1);
        DUE.is("16: run()", x.run(), 3);
        DUE.are("16: the fastest first, then the least number", Due.at(x), 2, 1, 0, -1);
        x.change(3, 0, 11);
        DUE.is("16: run() again", x.run(), 3);
        DUE.are("16: who was slow stands", Due.at(x), 0, 1, -1, 2);
        x.stuff(0, 1, 4);
        x.run();
        DUE.are("16: h by a CUSHION, too", Due.at(x), 2, 0, -1, 1);
        Due.textOf(x, 1, "n*(v>10)");
        x.run();
        DUE.are("16: by another ZEAL; of several the least", Due.at(x), 0, 2, -1, 1);
        Due.textOf(x, 1, "0-50-n");
        x.run();
        DUE.are("16: a ZEAL below 0", Due.at(x), 2, 0, -1, 1);
        Due.textOf(x, 1, "n*999");
        x.run();
        DUE.are("16: a ZEAL that is held", Due.at(x), 0, 1, -1, 2);
        DUE.is("16: nothing else goes on", x.count(2) * 1000 + x.count(3), 0);
        ChairViews whether = Due.seated(Due.withChairs(0, 1, 0, 0, 0, 0), -1, -1);
        Due.textOf(whether, 1, "(h=1)*30+(h=0)*n*20");
        whether.run();
        DUE.are("16: h is 1 or 0", Due.at(whether), 2, 0);
        DUE.is("16: run() of no MEMBERS", Due.withChairs(0, 0).run(), 0);
        DUE.is("16: run() of no CHAIRS", Due.seated(new ChairViews(), -1, -1).run(), 0);
    }

    private static void sittings() {
        ChairViews x = Due.withChairs(0, 3, 0, 1, 0, 0);
        x.member(0);
        x.member(0);
        x.stuff(0, 1, 0b1010_0010);
        x.stuff(1, 1, 0b0010_0010);
        x.stuff(2, 1, 0b1111_0000);
        DUE.is("17: LAWS, the run first", x.sittings(1), 0b0010_0001);
        DUE.are("17: who sits", Due.at(x), 0, 1);
        DUE.are("17: the least BILL goes out", Due.cushions(x), 0b1010_0000, 0b0010_0000, 0b1111_0000);
        DUE.is("17: one that doesn't pass isn't in LAWS", x.sittings(1), 0b0010_0001);
        DUE.are("17: CUSHIONS", Due.cushions(x), 0b1000_0000, 0, 0b1111_0000);
        DUE.is("17: two", x.sittings(2), 1);
        DUE.are("17: CUSHIONS", Due.cushions(x), 0, 0, 0b1111_0000);
        DUE.is("17: SITTING", x.count(2), 4);
        x.stuff(0, 0, 0);
        x.stuff(1, 0, 0);
        DUE.is("17: a law goes", x.sittings(1), 0);
        DUE.is("17: count(3)", x.count(3), 0);
        DUE.refuses("17: sittings(0)", Due::furnished, y -> y.sittings(0), BEYOND);
        DUE.refuses("17: sittings(61)", Due::furnished, y -> y.sittings(61), BEYOND);
        DUE.refuses("17: sittings(-1)", Due::furnished, y -> y.sittings(-1), BEYOND);
    }

    private static void sittingsOfAllBills() {
        ChairViews x = Due.seated(Due.withChairs(60, 0), 0);
        DUE.is("17: all BILLS, and no more", x.sittings(1), 255);
        x.stuff(0, 1, 0b1000_0111);
        DUE.is("17: but those of a CUSHION", x.sittings(1), 0b0111_1000);
        DUE.are("17: BILL 0 is the least", Due.cushions(x), 0b1000_0110);
        DUE.is("17: then the next", x.sittings(1), 0b0111_1001);
        DUE.are("17: CUSHION", Due.cushions(x), 0b1000_0100);
        x.sittings(2);
        DUE.are("17: none is left", Due.cushions(x), 0);
        DUE.is("17: all BILLS", x.sittings(1), 255);
    }

    /** WEIGHT by SITTING: what is voted is weighed by the number ahead of its being 1 more. */
    private static void sittingsByNumber() {
        ChairViews x = Due.withChairs(0, 1, 0, 0);
        Due.seated(x, 0, 1);
        Due.textOf(x, 0, "s=2&k");
        DUE.is("17: SITTING 0", x.sittings(1), 0);
        DUE.is("17: SITTING 1", x.sittings(1), 0);
        DUE.is("17: SITTING 2", x.sittings(1), 1);
        DUE.is("17: SITTING 3", x.sittings(1), 0);
    }

    private static ChairViews late() {
        ChairViews x = Due.withChairs(0, 1, 0, 6);
        x.member(0);
        for (int i = 0; i < 166; i++) {
            x.sittings(60);
        }
        x.sittings(30);
        return x;
    }

    private static void upToTheLast() {
        DUE.is("17: 9990", late().count(2), 9990);
        DUE.refuses("17: 10 more", VotesSittingsTest::late, y -> y.sittings(10), Due.STATE);
        DUE.refuses("17: BEYOND ahead of STATE", VotesSittingsTest::late, y -> y.sittings(61), BEYOND);
        DUE.refuses("18: 10 more", VotesSittingsTest::late, y -> y.loose(10), Due.STATE);
        DUE.refuses("18: BEYOND ahead of STATE", VotesSittingsTest::late, y -> y.loose(41), BEYOND);
        ChairViews x = late();
        DUE.is("17: 9 more", x.sittings(9), 1);
        DUE.is("17: 9999", x.count(2), 9999);
        DUE.is("17: 1 more", x.sittings(1), Due.STATE);
        DUE.is("18: 1 more", x.loose(1), Due.STATE);
        DUE.is("19: only thought", x.then(60, -1), 1);
        x = late();
        DUE.is("18: 9 more", x.loose(9), 1);
        DUE.is("18: 9999", x.count(2), 9999);
    }

    private static int drawn(int z, int draws) {
        long now = z;
        for (int i = 0; i < draws; i++) {
            now = (int) (now * 1103515245L + 12345L);
        }
        return (int) now;
    }

    private static void loose() {
        ChairViews x = Due.withChairs(0, 1, 0, 0);
        x.member(0);
        x.member(1);
        x.member(2);
        DUE.is("18: loose(1)", x.loose(1), 0);
        int first = drawn(1, 1) >>> 8;
        int second = drawn(1, 2) >>> 8;
        for (int member = 0; member < 3; member++) {
            int due = first % 3 == member ? second % 100 : 10;
            DUE.is("18: SPEED of " + member, x.ofMember(member, 0), due);
        }
        DUE.is("18: z", x.count(9), drawn(1, 2));
        DUE.is("18: SITTING", x.count(2), 1);
        x.seed(-77);
        x.loose(40);
        DUE.is("18: z", x.count(9), drawn(-77, 80));
        DUE.is("18: SITTING", x.count(2), 41);
        int[] speeds = {x.ofMember(0, 0), x.ofMember(1, 0), x.ofMember(2, 0)};
        for (int i = 0; i < 3; i++) {
            int last = -1;
            for (int draw = 1; draw <= 79; draw += 2) {
                last = (drawn(-77, draw) >>> 8) % 3 == i ? drawn(-77, draw + 1) >>> 8 : last;
            }
            DUE.is("18: SPEED of " + i, speeds[i], last % 100);
        }
        ChairViews single = Due.seated(Due.withChairs(0, 1), -1);
        DUE.is("18: one MEMBER", single.loose(1), 1);
        DUE.is("18: SPEED of the one", single.ofMember(0, 0), second % 100);
        DUE.is("18: z", single.count(9), drawn(1, 2));
        ChairViews empty = Due.withChairs(0, 1);
        DUE.is("18: without MEMBERS", empty.loose(3), 0);
        DUE.is("18: no draws", empty.count(9), 1);
        DUE.is("18: but SITTINGS", empty.count(2), 3);
        DUE.refuses("18: loose(0)", Due::furnished, y -> y.loose(0), BEYOND);
        DUE.refuses("18: loose(41)", Due::furnished, y -> y.loose(41), BEYOND);
    }

    public static void main(String[] args) {
        vote();
        says();
        saysMore();
        run();
        sittings();
        sittingsOfAllBills();
        sittingsByNumber();
        upToTheLast();
        loose();
        DUE.end();
    }
}
