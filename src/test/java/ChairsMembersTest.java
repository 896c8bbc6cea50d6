/** Promises 1 to 10: a new object, chairs, members. */
public final class ChairsMembersTest {
    private static final Due DUE = new Due();
    private static final int BEYOND = Due.BEYOND;

    private static void newObject() {
        ChairViews x = new ChairViews();
        int[] counts = {0, 0, 0, 0, 0, 0, 0, 0, 0, 1};
        for (int what = 0; what < counts.length; what++) {
            DUE.is("1: count(" + what + ")", x.count(what), counts[what]);
        }
        DUE.are("1: told", Due.told(x), 0, 0, 0, 0, 0);
        DUE.is("1: law(0) without a text", x.law(0, 8, 8, 8), 1);
        DUE.is("1: law(1) without a text", x.law(1, 1, 3, 50), 7);
        DUE.is("1: ofChair(0, 0)", x.ofChair(0, 0), BEYOND);
        DUE.is("1: ofMember(0, 0)", x.ofMember(0, 0), BEYOND);
        DUE.is("1: judge(0), missing", x.judge(0), Due.NONE);
        DUE.is("1: judge(3), missing", x.judge(3), Due.NONE);
        DUE.is("1: trace(0)", x.trace(0), Due.NONE);
        DUE.is("1: restore()", x.restore(), Due.NONE);
        DUE.is("1: check()", x.check(), 0);
        ChairViews y = new ChairViews();
        x.chair(0, 1);
        DUE.is("1: another object's count(0)", y.count(0), 0);
    }

    private static void chair() {
        ChairViews x = new ChairViews();
        DUE.is("2: chair(0, 0)", x.chair(0, 0), 0);
        DUE.is("2: chair(69, 255)", x.chair(69, 255), 1);
        DUE.is("2: its KIND", x.ofChair(1, 0), 6);
        DUE.is("2: its m", x.ofChair(1, 1), 9);
        DUE.is("2: its VIEWS", x.ofChair(1, 2), 255);
        DUE.is("2: its CUSHION", x.ofChair(1, 3), 0);
        DUE.is("2: nobody is AT it", x.ofChair(1, 4), -1);
        for (int i = 2; i < 6; i++) {
            DUE.is("2: one more", x.chair(i, i), i);
        }
        DUE.is("2: FULL", x.chair(0, 0), Due.FULL);
        DUE.is("2: BEYOND ahead of FULL", x.chair(0, 256), BEYOND);
        DUE.is("2: still 6", x.count(0), 6);
        DUE.refuses("2: chair(-1, 0)", Due::furnished, y -> y.chair(-1, 0), BEYOND);
        DUE.refuses("2: chair(70, 0)", Due::furnished, y -> y.chair(70, 0), BEYOND);
        DUE.refuses("2: chair(0, -1)", Due::furnished, y -> y.chair(0, -1), BEYOND);
        DUE.refuses("2: chair(0, 256)", Due::furnished, y -> y.chair(0, 256), BEYOND);
    }

    private static void chairBehindRestore() {
        ChairViews x = new ChairViews();
        x.image();
        x.chair(0, 5);
        x.member(3);
        x.stuff(0, 1, 9);
        x.change(0, 0, 77);
        x.sit(0, 0);
        x.restore();
        DUE.is("2: a CHAIR in an old one's place", x.chair(12, 4), 0);
        DUE.is("2: has no CUSHION", x.ofChair(0, 3), 0);
        DUE.is("7: a MEMBER in an old one's place", x.member(2), 0);
        DUE.is("7: has SPEED 10", x.ofMember(0, 0), 10);
        DUE.is("7: stands", x.ofMember(0, 2), -1);
    }

    private static void ofChair() {
        ChairViews x = Due.withChairs(47, 129, 58, 7, 69, 1);
        x.stuff(0, 1, 3);
        Due.seated(x, -1, 0);
        DUE.is("3: KIND", x.ofChair(0, 0), 4);
        DUE.is("3: m", x.ofChair(0, 1), 7);
        DUE.is("3: VIEWS", x.ofChair(0, 2), 129);
        DUE.is("3: CUSHION", x.ofChair(0, 3), 3);
        DUE.is("3: who is AT it", x.ofChair(0, 4), 1);
        DUE.is("3: nobody", x.ofChair(1, 4), -1);
        DUE.is("3: WEIGHT without a text", x.ofChair(0, 5), 1);
        DUE.is("3: WEIGHT of a BENCH, m 8", x.ofChair(1, 5), 3);
        DUE.is("3: WEIGHT of a CROWN", x.ofChair(2, 5), 2);
        Due.textOf(x, 0, "k*40+c*7+s");
        DUE.is("3: WEIGHT by k, c", x.ofChair(0, 5), 94);
        DUE.is("3: a BENCH's, held ahead of its m", x.ofChair(1, 5), 101);
        DUE.is("3: a CROWN's", x.ofChair(2, 5), 80);
        x.sittings(1);
        DUE.is("3: by SITTING (a CUSHION on which nobody sat)", x.ofChair(0, 5), 95);
        DUE.is("3: a CROWN's by SITTING", x.ofChair(2, 5), 82);
        DUE.refuses("3: ofChair(-1, 0)", Due::furnished, y -> y.ofChair(-1, 0), BEYOND);
        DUE.refuses("3: ofChair(4, 0)", Due::furnished, y -> y.ofChair(4, 0), BEYOND);
        DUE.refuses("3: ofChair(0, -1)", Due::furnished, y -> y.ofChair(0, -1), BEYOND);
        DUE.refuses("3: ofChair(0, 6)", Due::furnished, y -> y.ofChair(0, 6), BEYOND);
    }

    private static void weightByKinds() {
        int[] weights = {5, 5, 5, 5, 5, 8, 10};
        for (int kind = 0; kind < 7; kind++) {
            ChairViews x = Due.withChairs(kind * 10 + 9, 0);
            Due.textOf(x, 0, "5");
            DUE.is("3: WEIGHT of KIND " + kind, x.ofChair(0, 5), weights[kind]);
        }
        for (int m = 0; m < 10; m++) {
            DUE.is("3: a BENCH of m " + m, Due.withChairs(50 + m, 0).ofChair(0, 5), 1 + m / 3);
        }
    }

    private static void stuff() {
        ChairViews x = Due.withChairs(0, 5, 10, 6);
        DUE.is("4: stuff(1, 0, 255)", x.stuff(1, 0, 255), 6);
        DUE.is("4: stuff(1, 0, 0)", x.stuff(1, 0, 0), 255);
        DUE.is("4: stuff(1, 1, 200)", x.stuff(1, 1, 200), 0);
        DUE.is("4: stuff(1, 1, 1)", x.stuff(1, 1, 1), 200);
        DUE.is("4: VIEWS then", x.ofChair(1, 2), 0);
        DUE.is("4: CUSHION then", x.ofChair(1, 3), 1);
        DUE.is("4: the other one's VIEWS", x.ofChair(0, 2), 5);
        DUE.is("4: the other one's CUSHION", x.ofChair(0, 3), 0);
        DUE.refuses("4: stuff(-1, 0, 0)", Due::furnished, y -> y.stuff(-1, 0, 0), BEYOND);
        DUE.refuses("4: stuff(4, 0, 0)", Due::furnished, y -> y.stuff(4, 0, 0), BEYOND);
        DUE.refuses("4: stuff(0, -1, 0)", Due::furnished, y -> y.stuff(0, -1, 0), BEYOND);
        DUE.refuses("4: stuff(0, 2, 0)", Due::furnished, y -> y.stuff(0, 2, 0), BEYOND);
        DUE.refuses("4: stuff(0, 0, -1)", Due::furnished, y -> y.stuff(0, 0, -1), BEYOND);
        DUE.refuses("4: stuff(0, 1, 256)", Due::furnished, y -> y.stuff(0, 1, 256), BEYOND);
    }

    private static void become() {
        ChairViews x = Due.withChairs(4, 5);
        Due.seated(x, 0);
        x.stuff(0, 1, 3);
        DUE.is("5: become(0, 69)", x.become(0, 69), 0);
        DUE.is("5: KIND", x.ofChair(0, 0), 6);
        DUE.is("5: m", x.ofChair(0, 1), 9);
        DUE.is("5: VIEWS stay", x.ofChair(0, 2), 5);
        DUE.is("5: CUSHION stays", x.ofChair(0, 3), 3);
        DUE.is("5: the sitter stays", x.ofChair(0, 4), 0);
        DUE.is("5: become(0, 0)", x.become(0, 0), 6);
        DUE.is("5: m", x.ofChair(0, 1), 0);
        DUE.refuses("5: become(-1, 0)", Due::furnished, y -> y.become(-1, 0), BEYOND);
        DUE.refuses("5: become(4, 0)", Due::furnished, y -> y.become(4, 0), BEYOND);
        DUE.refuses("5: become(0, -1)", Due::furnished, y -> y.become(0, -1), BEYOND);
        DUE.refuses("5: become(0, 70)", Due::furnished, y -> y.become(0, 70), BEYOND);
    }

    private static void as() {
        String[] kindsAbove = {"0", "01", "02", "03", "014", "025", "036"};
        for (int kind = 0; kind < 7; kind++) {
            ChairViews x = Due.withChairs(kind * 10 + 7, 0);
            for (int wanted = 0; wanted < 7; wanted++) {
                boolean is = kindsAbove[kind].indexOf('0' + wanted) >= 0;
                DUE.is("6: KIND " + kind + " as " + wanted, x.as(0, wanted), is ? 7 : Due.KIND);
            }
        }
        DUE.refuses("6: as(-1, 0)", Due::furnished, y -> y.as(-1, 0), BEYOND);
        DUE.refuses("6: as(4, 0)", Due::furnished, y -> y.as(4, 0), BEYOND);
        DUE.refuses("6: as(0, -1)", Due::furnished, y -> y.as(0, -1), BEYOND);
        DUE.refuses("6: as(0, 7)", Due::furnished, y -> y.as(0, 7), BEYOND);
        DUE.refuses("6: as(0, 1)", Due::furnished, y -> y.as(0, 1), Due.KIND);
    }

    private static void member() {
        ChairViews x = new ChairViews();
        DUE.is("7: member(0)", x.member(0), 0);
        DUE.is("7: member(7)", x.member(7), 1);
        DUE.is("7: SPEED", x.ofMember(1, 0), 10);
        DUE.is("7: HOBBY", x.ofMember(1, 1), 7);
        DUE.is("7: stands", x.ofMember(1, 2), -1);
        for (int i = 2; i < 6; i++) {
            DUE.is("7: one more", x.member(i), i);
        }
        DUE.is("7: FULL", x.member(0), Due.FULL);
        DUE.is("7: BEYOND ahead of FULL", x.member(8), BEYOND);
        DUE.is("7: still 6", x.count(1), 6);
        DUE.refuses("7: member(-1)", Due::furnished, y -> y.member(-1), BEYOND);
        DUE.refuses("7: member(8)", Due::furnished, y -> y.member(8), BEYOND);
    }

    private static void ofMember() {
        ChairViews x = Due.withChairs(0, 0, 0, 0);
        x.member(3);
        x.member(6);
        x.change(1, 0, 99);
        x.sit(1, 1);
        DUE.is("8: SPEED", x.ofMember(1, 0), 99);
        DUE.is("8: HOBBY", x.ofMember(1, 1), 6);
        DUE.is("8: AT", x.ofMember(1, 2), 1);
        DUE.is("8: the other one's SPEED", x.ofMember(0, 0), 10);
        DUE.is("8: the other one stands", x.ofMember(0, 2), -1);
        DUE.refuses("8: ofMember(-1, 0)", Due::furnished, y -> y.ofMember(-1, 0), BEYOND);
        DUE.refuses("8: ofMember(3, 0)", Due::furnished, y -> y.ofMember(3, 0), BEYOND);
        DUE.refuses("8: ofMember(0, -1)", Due::furnished, y -> y.ofMember(0, -1), BEYOND);
        DUE.refuses("8: ofMember(0, 3)", Due::furnished, y -> y.ofMember(0, 3), BEYOND);
    }

    private static void change() {
        ChairViews x = Due.seated(new ChairViews(), -1, -1);
        DUE.is("9: change(1, 0, 0)", x.change(1, 0, 0), 10);
        DUE.is("9: change(1, 0, 99)", x.change(1, 0, 99), 0);
        DUE.is("9: change(1, 1, 7)", x.change(1, 1, 7), 0);
        DUE.is("9: change(1, 1, 0)", x.change(1, 1, 0), 7);
        DUE.is("9: SPEED", x.ofMember(1, 0), 99);
        DUE.is("9: the other one's SPEED", x.ofMember(0, 0), 10);
        DUE.refuses("9: change(-1, 0, 0)", Due::furnished, y -> y.change(-1, 0, 0), BEYOND);
        DUE.refuses("9: change(3, 0, 0)", Due::furnished, y -> y.change(3, 0, 0), BEYOND);
        DUE.refuses("9: change(0, -1, 0)", Due::furnished, y -> y.change(0, -1, 0), BEYOND);
        DUE.refuses("9: change(0, 2, 0)", Due::furnished, y -> y.change(0, 2, 0), BEYOND);
        DUE.refuses("9: change(0, 0, -1)", Due::furnished, y -> y.change(0, 0, -1), BEYOND);
        DUE.refuses("9: change(0, 0, 100)", Due::furnished, y -> y.change(0, 0, 100), BEYOND);
        DUE.refuses("9: change(0, 1, -1)", Due::furnished, y -> y.change(0, 1, -1), BEYOND);
        DUE.refuses("9: change(0, 1, 8)", Due::furnished, y -> y.change(0, 1, 8), BEYOND);
    }

    private static void sit() {
        ChairViews x = Due.withChairs(0, 0, 0, 0);
        x.member(0);
        x.member(0);
        DUE.is("10: sit(0, -1), he stands already", x.sit(0, -1), -1);
        DUE.is("10: sit(0, 1)", x.sit(0, 1), -1);
        DUE.is("10: sit(0, 1), where he is", x.sit(0, 1), 1);
        DUE.is("10: sit(1, 1)", x.sit(1, 1), Due.STATE);
        DUE.is("10: sit(0, 0)", x.sit(0, 0), 1);
        DUE.is("10: sit(1, 1), free now", x.sit(1, 1), -1);
        DUE.is("10: sit(1, -1)", x.sit(1, -1), 1);
        DUE.are("10: AT", Due.at(x), 0, -1);
        DUE.refuses("10: sit(-1, 0)", Due::furnished, y -> y.sit(-1, 3), BEYOND);
        DUE.refuses("10: sit(3, 3)", Due::furnished, y -> y.sit(3, 3), BEYOND);
        DUE.refuses("10: sit(0, -2)", Due::furnished, y -> y.sit(0, -2), BEYOND);
        DUE.refuses("10: sit(0, 4)", Due::furnished, y -> y.sit(0, 4), BEYOND);
        DUE.refuses("10: sit(2, taken)", Due::furnished, y -> y.sit(2, y.ofMember(0, 2)), Due.STATE);
    }

    public static void main(String[] args) {
        newObject();
        chair();
        chairBehindRestore();
        ofChair();
        weightByKinds();
        stuff();
        become();
        as();
        member();
        ofMember();
        change();
        sit();
        DUE.end();
    }
}
