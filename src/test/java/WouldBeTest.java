import java.util.function.ToIntFunction;

/** Promises 19 to 27: what would be, all of it only thought. */
public final class WouldBeTest {
    private static final Due DUE = new Due();
    private static final int BEYOND = Due.BEYOND;
    private static final int NONE = Due.NONE;

    /** That a question leaves everything as it was. */
    private static void onlyThought(String call, ChairViews x, ToIntFunction<ChairViews> act, int due) {
        String before = Due.seen(x);
        DUE.is(call, act.applyAsInt(x), due);
        DUE.is(call + " is only thought", before.equals(Due.seen(x)) ? 1 : 0, 1);
    }

    /** One who sits on a CUSHION that hides 2 of its VIEWS, and one who stands. */
    private static ChairViews wearing() {
        ChairViews x = Due.withChairs(0, 0b1110, 0, 0);
        x.stuff(0, 1, 0b0110);
        x.member(3);
        x.sit(0, 1);
        return x;
    }

    private static void then() {
        onlyThought("19: then(0, -1)", wearing(), x -> x.then(0, -1), 0);
        onlyThought("19: then(0, 0), where he is", wearing(), x -> x.then(0, 0), 1);
        onlyThought("19: then(1, 0)", wearing(), x -> x.then(1, 0), 0);
        onlyThought("19: then(1, -1)", wearing(), x -> x.then(1, -1), 0b1000);
        onlyThought("19: then(2, -1)", wearing(), x -> x.then(2, -1), 0b1010);
        onlyThought("19: then(3, -1)", wearing(), x -> x.then(3, -1), 0b1110);
        onlyThought("19: then(60, -1)", wearing(), x -> x.then(60, -1), 0b1110);
        ChairViews x = wearing();
        x.member(3);
        x.member(3);
        DUE.is("19: one who stands", x.then(1, 2), -1);
        x = wearing();
        x.sittings(2);
        DUE.is("19: LAWS now", x.then(0, -1), 0b1010);
        DUE.refuses("19: then(-1, 0)", Due::furnished, y -> y.then(-1, 0), BEYOND);
        DUE.refuses("19: then(61, 0)", Due::furnished, y -> y.then(61, 0), BEYOND);
        DUE.refuses("19: then(1, -2)", Due::furnished, y -> y.then(1, -2), BEYOND);
        DUE.refuses("19: then(1, 3)", Due::furnished, y -> y.then(1, 3), BEYOND);
    }

    private static ChairViews weighty(String text) {
        ChairViews x = Due.withChairs(0, 1);
        x.member(0);
        Due.textOf(x, 0, text);
        return x;
    }

    private static void when() {
        onlyThought("20: when(3)", wearing(), x -> x.when(3), 1);
        onlyThought("20: when(1)", wearing(), x -> x.when(1), 2);
        onlyThought("20: when(2)", wearing(), x -> x.when(2), 3);
        onlyThought("20: by 60", weighty("s=59"), x -> x.when(0), 60);
        DUE.refuses("20: not by 60", () -> weighty("s=60"), x -> x.when(0), NONE);
        ChairViews x = weighty("s<1");
        x.sittings(1);
        DUE.is("20: a law already", x.when(0), 0);
        DUE.refuses("20: never", WouldBeTest::wearing, y -> y.when(7), NONE);
        DUE.refuses("20: when(-1)", Due::furnished, y -> y.when(-1), BEYOND);
        DUE.refuses("20: when(8)", Due::furnished, y -> y.when(8), BEYOND);
    }

    private static void turning() {
        ChairViews three = Due.seated(Due.withChairs(0, 1, 0, 1, 0, 0), 0, 1, 2);
        onlyThought("21: one of two that are for", three, x -> x.turning(0), 1);
        onlyThought("21: two of three", three, x -> x.turning(1), 3);
        three.stuff(0, 1, 2);
        onlyThought("21: one has a CUSHION on it", three, x -> x.turning(1), 2);
        ChairViews glued = Due.seated(Due.withChairs(59, 255, 0, 0, 0, 0), 0, 1, 2);
        DUE.is("21: the one that a BENCH is glued to", glued.turning(0), 2);
        ChairViews fewest = Due.withChairs(0, 0b110, 0, 0b110, 0, 0b11110, 0, 1);
        Due.seated(fewest, 0, 1, 2, 3);
        Due.textOf(fewest, 0, "k");
        DUE.is("21: one rather than a lesser set of two", fewest.turning(0), 4);
        Due.textOf(fewest, 0, "c");
        DUE.is("21: a CUSHION weighs", fewest.turning(0), 1);
        fewest.stuff(0, 0, 7);
        DUE.is("21: a CUSHION weighs", fewest.turning(0), 2);
        Due.textOf(fewest, 0, "k+4*c");
        DUE.is("21: one alone, by what its CUSHION weighs", fewest.turning(6), 4);
        ChairViews free = Due.seated(Due.withChairs(0, 0, 0, 0), 1);
        DUE.is("21: one at which somebody is", free.turning(7), 2);
        DUE.refuses("21: SOAKED", () -> Due.seated(Due.withChairs(40, 0), 0), y -> y.turning(0), NONE);
        DUE.refuses("21: nobody sits", () -> Due.withChairs(0, 0), y -> y.turning(0), NONE);
        DUE.refuses("21: turning(-1)", Due::furnished, y -> y.turning(-1), BEYOND);
        DUE.refuses("21: turning(8)", Due::furnished, y -> y.turning(8), BEYOND);
    }

    private static ChairViews fourChairs(int... chairs) {
        return Due.seated(Due.withChairs(0, 0, 0, 0, 0, 1, 0, 1), chairs);
    }

    private static void moves() {
        onlyThought("22: it does", fourChairs(2), x -> x.moves(0), 0);
        onlyThought("22: one sits down", fourChairs(-1), x -> x.moves(0), 1);
        onlyThought("22: one goes elsewhere", fourChairs(0), x -> x.moves(0), 1);
        onlyThought("22: one stands up", fourChairs(0, 2), x -> x.moves(0), 1);
        onlyThought("22: two go elsewhere", fourChairs(0, 1), x -> x.moves(0), 2);
        onlyThought("22: one goes, of three", fourChairs(0, 1, 2), x -> x.moves(0), 1);
        onlyThought("22: one goes beside", fourChairs(0, 1, 2, -1), x -> x.moves(0), 1);
        onlyThought("22: one more stands up", fourChairs(0, 1, 2, 3), x -> x.moves(0), 1);
        ChairViews two = Due.seated(Due.withChairs(0, 0, 0, 0, 0, 0, 0, 1, 0, 1), 0, 1, 2, 3);
        DUE.is("22: one goes, one stands up", two.moves(0), 2);
        two.sit(3, -1);
        DUE.is("22: two sit down or go, against one", two.moves(0), 2);
        two.become(4, 40);
        DUE.is("22: not by 2", two.moves(0), NONE);
        ChairViews standing = Due.seated(Due.withChairs(0, 0, 59, 1, 0, 1), 0, -1, -1);
        DUE.is("22: one who stood sits down", standing.moves(0), 1);
        standing.become(1, 0);
        DUE.is("22: one who sat goes", standing.moves(0), 1);
        ChairViews glue = Due.seated(Due.withChairs(20, 0, 40, 1), 0);
        DUE.is("22: one alone can't be two", glue.moves(0), NONE);
        glue.member(0);
        DUE.is("22: but one more can", glue.moves(0), 1);
        glue.sit(0, -1);
        DUE.is("22: by two who sit down", glue.moves(0), 2);
        DUE.refuses("22: no MEMBERS", () -> Due.withChairs(0, 1), y -> y.moves(0), NONE);
        DUE.refuses("22: moves(-1)", Due::furnished, y -> y.moves(-1), BEYOND);
        DUE.refuses("22: moves(8)", Due::furnished, y -> y.moves(8), BEYOND);
    }

    private static void power() {
        ChairViews x = Due.withChairs(0, 1, 0, 3, 0, 7, 0, 255, 0, 255);
        Due.seated(x, 0, 1, 2);
        onlyThought("23: 3 of 1 each", x, y -> y.power(0), 2);
        Due.textOf(x, 0, "k");
        DUE.is("23: 1 of 1, 2, 3: just half is no more", x.power(0), 1);
        DUE.is("23: 2 of 1, 2, 3", x.power(1), 1);
        DUE.is("23: 3 of 1, 2, 3", x.power(2), 3);
        x.sit(2, -1);
        DUE.is("23: 1 of 1, 2", x.power(0), 0);
        DUE.is("23: 2 of 1, 2", x.power(1), 2);
        Due.textOf(x, 0, "0");
        DUE.is("23: of nothing", x.power(1), 0);
        ChairViews crown = Due.seated(Due.withChairs(60, 0, 59, 0, 0, 0), 0, 1, 2);
        DUE.is("23: a CROWN of 2, 4, 1", crown.power(0), 0);
        DUE.is("23: a BENCH of 2, 4, 1", crown.power(1), 4);
        DUE.refuses("23: nobody is AT it", () -> fourChairs(0), y -> y.power(1), Due.STATE);
        DUE.refuses("23: power(-1)", Due::furnished, y -> y.power(-1), BEYOND);
        DUE.refuses("23: power(4)", Due::furnished, y -> y.power(4), BEYOND);
    }

    private static ChairViews sheeted(int bits, int... numbers) {
        ChairViews x = Due.seated(Due.withChairs(0, 1, 0, 3, 0, 7, 40, 255), 3, 2);
        x.sheet(2, bits, numbers.length);
        Due.putAll(x, 2, numbers);
        return x;
    }

    private static void fits() {
        onlyThought("24: no numbers: all sets of 2", sheeted(8), x -> x.fits(2, 0), 6);
        onlyThought("24: the least", sheeted(8), x -> x.fits(2, 1), 3);
        onlyThought("24: BILL 0, 1 for", sheeted(8, 1), x -> x.fits(2, 0), 3);
        onlyThought("24: the least", sheeted(8, 1), x -> x.fits(2, 1), 9);
        DUE.is("24: BILLS 0, 1", sheeted(16, 1, -1).fits(2, 0), 1);
        DUE.is("24: the one", sheeted(16, 1, -1).fits(2, 1), 9);
        DUE.is("24: BILLS 0, 1, 2", sheeted(32, 2, 2, 0).fits(2, 1), 6);
        DUE.is("24: 8 BILLS", sheeted(8, 1, 1, 1, -1, -1, -1, -1, -1).fits(2, 1), 12);
        DUE.is("24: none", sheeted(8, 5).fits(2, 0), 0);
        ChairViews nobody = Due.withChairs(0, 1, 0, 3);
        nobody.sheet(0, 8, 8);
        DUE.is("24: nobody sits: the empty set", nobody.fits(0, 0), 1);
        DUE.is("24: which is the least", nobody.fits(0, 1), 0);
        DUE.is("24: unlike only beyond 8 bits", sheeted(16, 257).fits(2, 0), 0);
        DUE.refuses("24: there is none", () -> sheeted(8, 5), x -> x.fits(2, 1), NONE);
        DUE.refuses("24: 9 numbers", Due::furnished, x -> x.fits(1, 0), NONE);
        DUE.refuses("24: missing", Due::furnished, x -> x.fits(3, 0), NONE);
        DUE.refuses("24: BEYOND ahead of NONE", Due::furnished, x -> x.fits(3, 2), BEYOND);
        DUE.refuses("24: fits(0, -1)", Due::furnished, x -> x.fits(0, -1), BEYOND);
        DUE.refuses("24: fits(4, 0)", Due::furnished, x -> x.fits(4, 0), BEYOND);
        DUE.refuses("24: fits(-1, 0)", Due::furnished, x -> x.fits(-1, 0), BEYOND);
    }

    private static void parts() {
        ChairViews x = Due.seated(Due.withChairs(0, 1, 0, 3, 0, 7), 0);
        onlyThought("25: of several the least", x, y -> y.parts(0), 1);
        onlyThought("25: how many", x, y -> y.parts(1), 2);
        x.become(2, 12);
        DUE.is("25: nothing is a number, too", x.parts(0) * 10 + x.parts(1), 12);
        x.stuff(0, 0, 5);
        DUE.is("25: -1, 0, 1", x.parts(0) * 10 + x.parts(1), 23);
        x.sit(0, -1);
        DUE.is("25: nobody sits: one set", x.parts(0) * 10 + x.parts(1), 1);
        DUE.refuses("25: parts(-1)", Due::furnished, y -> y.parts(-1), BEYOND);
        DUE.refuses("25: parts(2)", Due::furnished, y -> y.parts(2), BEYOND);
    }

    /** Sets of 3 of 6 CHAIRS with WEIGHTS 1, 2, 4, 8, 16, 32 are 20, and all unlike. */
    private static void partsOfMost() {
        ChairViews x = Due.withChairs(0, 1, 0, 3, 0, 7, 0, 15, 0, 31, 0, 63);
        Due.seated(x, 3, 4, 5);
        Due.textOf(x, 0, "(k=1)+(k=2)*2+(k=3)*4+(k=4)*8+(k=5)*16+(k=6)*32");
        DUE.is("25: WEIGHT 32", x.ofChair(5, 5), 32);
        DUE.is("25: BILL 0", x.parts(0), 0);
        DUE.is("25: 20 unlike numbers", x.parts(1), 20);
    }

    private static void faster() {
        ChairViews x = Due.withChairs(0, 1, 0, 0, 0, 0);
        x.member(0);
        x.member(0);
        x.change(0, 0, 40);
        x.change(1, 0, 5);
        onlyThought("26: faster than one ahead", x, y -> y.faster(1, 0), 41);
        onlyThought("26: as fast as one behind", x, y -> y.faster(0, 0), 5);
        onlyThought("26: the second choice", x, y -> y.faster(1, 1), 0);
        onlyThought("26: one that nobody takes", x, y -> y.faster(1, 2), NONE);
        Due.textOf(x, 1, "(v>n*30)*n");
        DUE.is("26: by a ZEAL of SPEED, ahead of one of 40", x.faster(1, 1), 41);
        DUE.is("26: by a ZEAL of SPEED", x.faster(1, 2), 61);
        DUE.is("26: slow", x.faster(1, 0), 0);
        Due.textOf(x, 1, "(v=99)*n");
        DUE.is("26: 99 will do", x.faster(1, 2), 99);
        x.change(0, 0, 99);
        DUE.is("26: no more", x.faster(1, 2), NONE);
        DUE.is("26: but of the least number", x.faster(0, 2), 99);
        DUE.refuses("26: by none", () -> fourChairs(-1), y -> y.faster(0, 3), NONE);
        DUE.refuses("26: faster(-1, 0)", Due::furnished, y -> y.faster(-1, 0), BEYOND);
        DUE.refuses("26: faster(3, 0)", Due::furnished, y -> y.faster(3, 0), BEYOND);
        DUE.refuses("26: faster(0, -1)", Due::furnished, y -> y.faster(0, -1), BEYOND);
        DUE.refuses("26: faster(0, 4)", Due::furnished, y -> y.faster(0, 4), BEYOND);
    }

    private static void seatless() {
        ChairViews x = Due.seated(Due.withChairs(0, 0, 0, 0), -1, 0, 1, -1);
        onlyThought("27: the last ones", x, y -> y.seatless(), 12);
        x.change(0, 0, 3);
        x.change(2, 0, 3);
        onlyThought("27: the slow ones", x, y -> y.seatless(), 5);
        DUE.is("27: no CHAIRS", Due.seated(new ChairViews(), -1, -1, -1).seatless(), 7);
        DUE.is("27: CHAIRS for all", fourChairs(-1, -1).seatless(), 0);
        DUE.is("27: no MEMBERS", new ChairViews().seatless(), 0);
    }

    public static void main(String[] args) {
        then();
        when();
        turning();
        moves();
        power();
        fits();
        parts();
        partsOfMost();
        faster();
        seatless();
        DUE.end();
    }
}
