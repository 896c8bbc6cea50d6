import java.util.Arrays;

/** The sentences of Terms 4, and of promises 31 to 35: sheets. */
public final class SheetEdgesTest {
    private static final Due DUE = new Due();
    private static final int BEYOND = Due.BEYOND;
    private static final int NONE = Due.NONE;
    private static final int MIN = Integer.MIN_VALUE;
    private static final int MAX = Integer.MAX_VALUE;
    private static final int[] BITS = {8, 16, 32};

    static Sentences sentences() {
        return new Sentences().in("Terms 4")
            .hold("SHEETS 0 .. 3 are rows", SheetEdgesTest::four)
            .hold("of 8, 16, 32 bits,", SheetEdgesTest::bits)
            .hold("at most 40 numbers,", SheetEdgesTest::atMost)
            .hold("or missing (as at first).", SheetEdgesTest::missing)
            .in("Promise 31")
            .hold("A SHEET has n numbers, all 0, of so many bits", SheetEdgesTest::sheet)
            .hold("(8, 16, 32; 0: it is missing, n doesn't matter): 1.", SheetEdgesTest::sheetOfNoBits)
            .hold("BEYOND.", SheetEdgesTest::sheetBeyond)
            .hold("STATE: n is below 0 (ahead of BEYOND of n).", SheetEdgesTest::sheetState)
            .in("Promise 32")
            .hold("Number i of a SHEET becomes v (its lowest bits): 1.", SheetEdgesTest::put)
            .hold("BEYOND: no such SHEET.", SheetEdgesTest::putNoSheet)
            .hold("NONE: it is missing.", SheetEdgesTest::putMissing)
            .hold("BEYOND: no such number.", SheetEdgesTest::putNoNumber)
            .in("Promise 33")
            .hold("n numbers of a SHEET, from number i on, come to another one (or the same), from its number j on,",
                SheetEdgesTest::move)
            .hold("as they all were: n.", SheetEdgesTest::moveOnto)
            .hold("BEYOND: no such SHEET.", SheetEdgesTest::moveNoSheet)
            .hold("NONE: one is missing.", SheetEdgesTest::moveMissing)
            .hold("KIND: they are of unlike bits.", SheetEdgesTest::moveUnlike)
            .hold("BEYOND: n, i, or j is below 0, or they don't stand there.", SheetEdgesTest::moveBeyond)
            .in("Promise 34")
            .hold("Numbers of a SHEET become SPEEDS of MEMBERS 0, 1, ..: how many,", SheetEdgesTest::speeds)
            .hold("up to the first that is not 0 to 99 (no ERROR then), or for which there is no MEMBER.",
                SheetEdgesTest::speedsUpTo)
            .hold("BEYOND: no such SHEET.", SheetEdgesTest::speedsNoSheet)
            .hold("NONE: it is missing.", SheetEdgesTest::speedsMissing)
            .in("Promise 35")
            .hold("Numbers of a SHEET are where MEMBERS 0, 1, .. are AT (-1: standing): the first that isn't so "
                + "(one that lacks, or is too many, too);", SheetEdgesTest::judge)
            .hold("-1: all are.", SheetEdgesTest::judgeAll)
            .hold("BEYOND: no such SHEET.", SheetEdgesTest::judgeNoSheet)
            .hold("NONE: it is missing.", SheetEdgesTest::judgeMissing);
    }

    /** A house of 6 MEMBERS, who stand, and 6 CHAIRS, with a SHEET 0. */
    private static ChairViews sheeted(int bits, int... numbers) {
        ChairViews x = Due.seated(Due.withChairs(0, 0, 0, 0, 0, 0, 0, 0, 0, 0, 0, 0), -1, -1, -1, -1, -1, -1);
        x.sheet(0, bits, numbers.length);
        Due.putAll(x, 0, numbers);
        return x;
    }

    /** The first numbers of a SHEET, up to 6, as SPEEDS show them. */
    private static int[] numbers(ChairViews x, int sheet) {
        int[] all = new int[Math.max(x.speeds(sheet), 0)];
        for (int i = 0; i < all.length; i++) {
            all[i] = x.ofMember(i, 0);
        }
        return all;
    }

    /** That a number, put into a SHEET, is another (-593 to 593): FITS compares it with how a BILL went. */
    private static void isThen(int bits, int put, int number) {
        ChairViews x = new ChairViews();
        int views = number > 0 ? 1 : 0;
        for (int i = 0; i < Math.abs(number) / 99; i++) {
            x.sit(x.member(0), x.chair(0, views));
        }
        x.sit(x.member(0), x.chair(0, views + 192));
        Due.textOf(x, 0, "(k<2)*99+(k>1)*" + Math.abs(number) % 99);
        DUE.is("FOR less AGAINST", x.vote(0, 0) - x.vote(0, 1), number);
        x.sheet(0, bits, 1);
        x.put(0, 0, put);
        DUE.is(put + " in " + bits + " bits is " + number, x.fits(0, 0), 1);
        x.put(0, 0, number + 1);
        DUE.is("and no other is", x.fits(0, 0), 0);
    }

    // ---- Terms 4

    private static void four() {
        ChairViews x = new ChairViews();
        for (int sheet = 0; sheet < 4; sheet++) {
            DUE.is("sheet(" + sheet + ", 8, 1)", x.sheet(sheet, 8, 1 + sheet), 1);
        }
        for (int sheet = 0; sheet < 4; sheet++) {
            DUE.is("each its own", x.put(sheet, sheet, 1), 1);
            DUE.is("each its own", x.put(sheet, sheet + 1, 1), BEYOND);
        }
        DUE.is("sheet(4, 8, 1)", x.sheet(4, 8, 1), BEYOND);
        DUE.is("sheet(-1, 8, 1)", x.sheet(-1, 8, 1), BEYOND);
    }

    private static void bits() {
        int[][] rows = {
            {8, 127, 127}, {8, 128, -128}, {8, 255, -1}, {8, 256, 0}, {8, -128, -128}, {8, -129, 127},
            {16, 127, 127}, {16, 128, 128}, {16, 255, 255}, {16, -129, -129}, {16, 65535, -1}, {16, 65536, 0},
            {16, 65536 + 300, 300}, {16, -65536 - 300, -300}, {32, 255, 255}, {32, -129, -129}, {32, 593, 593}};
        for (int[] row : rows) {
            isThen(row[0], row[1], row[2]);
        }
        for (int apart : new int[] {256, 65536, 1 << 24, MIN}) {
            ChairViews x = sheeted(32, apart + 7);
            DUE.are(apart + " apart in 32 bits", numbers(x, 0));
            x.put(0, 0, 7);
            DUE.are("7 in 32 bits", numbers(x, 0), 7);
        }
        DUE.are("32768 apart in 16 bits", numbers(sheeted(16, 32768 + 7), 0));
        DUE.are("128 apart in 8 bits", numbers(sheeted(8, 128 + 7), 0));
    }

    private static void atMost() {
        for (int bits : BITS) {
            ChairViews x = new ChairViews();
            DUE.is("40", x.sheet(0, bits, 40), 1);
            DUE.is("the 40th", x.put(0, 39, 1), 1);
            DUE.is("the 41st", x.put(0, 40, 1), BEYOND);
            DUE.is("41", x.sheet(0, bits, 41), BEYOND);
            DUE.is("none", x.sheet(0, bits, 0), 1);
            DUE.is("the first of none", x.put(0, 0, 1), BEYOND);
        }
    }

    private static void missing() {
        ChairViews x = new ChairViews();
        for (int sheet = 0; sheet < 4; sheet++) {
            DUE.is("put", x.put(sheet, 0, 0), NONE);
            DUE.is("fits", x.fits(sheet, 0), NONE);
            DUE.is("speeds", x.speeds(sheet), NONE);
            DUE.is("judge", x.judge(sheet), NONE);
            DUE.is("move", x.move(sheet, 0, sheet, 0, 0), NONE);
        }
    }

    // ---- promise 31

    private static void sheet() {
        for (int bits : BITS) {
            ChairViews x = sheeted(bits, 5, 6, 7, 8);
            DUE.is("sheet(0, " + bits + ", 4)", x.sheet(0, bits, 4), 1);
            DUE.are("all 0", numbers(x, 0), 0, 0, 0, 0);
            Due.putAll(x, 0, 5, 6, 7, 8);
            x.sheet(0, bits, 2);
            x.sheet(0, bits, 4);
            DUE.are("all 0, once they were fewer", numbers(x, 0), 0, 0, 0, 0);
            Due.putAll(x, 0, 5, 6, 7, 8);
            x.sheet(0, 0, 4);
            x.sheet(0, bits, 4);
            DUE.are("all 0, once it was missing", numbers(x, 0), 0, 0, 0, 0);
            x.sheet(1, bits, 40);
            x.put(1, 39, 9);
            x.sheet(1, bits, 40);
            x.move(1, 39, 0, 0, 1);
            DUE.are("all 0, the last", numbers(x, 0), 0, 0, 0, 0);
        }
    }

    private static void sheetOfNoBits() {
        for (int n : new int[] {0, 1, 40, 41, -1, MIN, MAX}) {
            ChairViews x = sheeted(8, 5, 6);
            DUE.is("sheet(0, 0, " + n + ")", x.sheet(0, 0, n), 1);
            DUE.is("it is missing", x.put(0, 0, 1), NONE);
            DUE.is("missing once more", x.sheet(0, 0, n), 1);
            DUE.are("no ERROR but that", Due.told(x), 0, 1, 0, 0, 0);
        }
        for (int bits : BITS) {
            ChairViews x = sheeted(8, 5, 6);
            DUE.is("sheet(0, " + bits + ", 1)", x.sheet(0, bits, 1), 1);
            x.put(0, 0, 256 + 7);
            DUE.is("of " + bits + " bits", x.speeds(0), bits == 8 ? 1 : 0);
            x.put(0, 0, 65536 + 7);
            DUE.is("of " + bits + " bits", x.speeds(0), bits == 32 ? 0 : 1);
        }
    }

    private static void sheetBeyond() {
        DUE.sheets("sheet(v, 8, 1)", (x, v) -> x.sheet(v, 8, 1));
        DUE.sheets("sheet(v, 0, 1)", (x, v) -> x.sheet(v, 0, 1));
        DUE.beyond("sheet(0, v, 1)", Due::furnished, (x, v) -> x.sheet(0, v, 1),
            -1, 1, 7, 9, 15, 17, 24, 31, 33, 64, -8, -16, -32, MIN, MAX);
        for (int bits : BITS) {
            DUE.beyond("sheet(0, " + bits + ", v)", Due::furnished, (x, v) -> x.sheet(0, bits, v), 41, 42, MAX);
            DUE.is("sheet(0, " + bits + ", 40)", Due.furnished().sheet(0, bits, 40), 1);
            DUE.is("sheet(0, " + bits + ", 0)", Due.furnished().sheet(0, bits, 0), 1);
        }
    }

    private static void sheetState() {
        for (int bits : BITS) {
            DUE.refuses("sheet(0, " + bits + ", -1)", Due::furnished, x -> x.sheet(0, bits, -1), Due.STATE);
            DUE.refuses("sheet(3, " + bits + ", MIN)", Due::full, x -> x.sheet(3, bits, MIN), Due.STATE);
        }
        DUE.beyond("of the SHEET, ahead of it", Due::furnished, (x, v) -> x.sheet(v, 8, -1), -1, 4);
        DUE.beyond("of the bits, ahead of it", Due::furnished, (x, v) -> x.sheet(0, v, -1), -1, 7, 9, 33);
    }

    // ---- promise 32

    private static void put() {
        ChairViews x = sheeted(8, 1, 2, 3);
        DUE.is("the first", x.put(0, 0, 99), 1);
        DUE.is("the last", x.put(0, 2, 0), 1);
        DUE.are("numbers", numbers(x, 0), 99, 2, 0);
        int[] cut = {256 + 5, -256 + 5, 65536 + 5, MIN + 5, MAX - 250};
        for (int v : cut) {
            x.put(0, 1, v);
            DUE.are("the lowest 8 bits of " + v, numbers(x, 0), 99, 5, 0);
        }
        ChairViews wide = sheeted(16, 65536 + 5, 5 - 65536, MIN + 5, 5);
        DUE.are("the lowest 16 bits", numbers(wide, 0), 5, 5, 5, 5);
        ChairViews signs = sheeted(8, 255, -1, 511, 65535, MAX, -257);
        DUE.is("-1 in 8 bits", signs.judge(0), -1);
        signs.put(0, 5, 127);
        DUE.is("127 isn't", signs.judge(0), 5);
        ChairViews widest = sheeted(32, -1, -1, -1, -1, -1, 65535);
        DUE.is("65535 isn't -1 in 32 bits", widest.judge(0), 5);
        DUE.is("nor 255 in 16", sheeted(16, -1, 65535, 255, -1, -1, -1).judge(0), 2);
    }

    private static void putNoSheet() {
        DUE.sheets("put(v, 0, 1)", (x, v) -> x.put(v, 0, 1));
        DUE.beyond("put(v, 0, 1), ahead of NONE", ChairViews::new, (x, v) -> x.put(v, 0, 1), -1, 4);
    }

    private static void putMissing() {
        for (int i : new int[] {0, -1, 40, MIN, MAX}) {
            DUE.refuses("put(3, " + i + ", 1), ahead of BEYOND", Due::furnished, x -> x.put(3, i, 1), NONE);
        }
    }

    private static void putNoNumber() {
        DUE.within("put(0, v, 1) of 3", 0, 2, Due::furnished, (x, v) -> x.put(0, v, 1));
        DUE.within("put(1, v, 1) of 9", 0, 8, Due::furnished, (x, v) -> x.put(1, v, 1));
        DUE.within("put(2, v, 1) of 40", 0, 39, Due::full, (x, v) -> x.put(2, v, 1));
        DUE.beyond("put(0, v, 1) of none", () -> sheeted(8), (x, v) -> x.put(0, v, 1), 0, -1);
    }

    // ---- promise 33

    private static void move() {
        for (int bits : BITS) {
            ChairViews x = sheeted(bits, 1, 2, 3, 4);
            x.sheet(3, bits, 3);
            DUE.is("all that has room", x.move(0, 1, 3, 0, 3), 3);
            DUE.are("from 1, to 0", numbers(x, 3), 2, 3, 4);
            DUE.is("the first to the last", x.move(0, 0, 3, 2, 1), 1);
            DUE.are("from 0, to 2", numbers(x, 3), 2, 3, 1);
            DUE.is("none", x.move(0, 0, 3, 0, 0), 0);
            DUE.is("none, from the end to the end", x.move(0, 4, 3, 3, 0), 0);
            DUE.are("as it was", numbers(x, 3), 2, 3, 1);
            DUE.are("the one that they come from stays", numbers(x, 0), 1, 2, 3, 4);
        }
        ChairViews most = Due.full();
        DUE.is("all 40", most.move(0, 0, 3, 0, 40), 40);
        DUE.is("the last alone", most.move(3, 39, 0, 0, 1), 1);
        DUE.is("what it is", most.speeds(0) > 0 ? most.ofMember(0, 0) : -1, 7);
        DUE.is("below 0, of 8 bits", movedWithin(8, -1), -1);
        DUE.is("below 0, of 16 bits", movedWithin(16, -1), -1);
        DUE.is("below 0, of 32 bits", movedWithin(32, -1), -1);
    }

    private static int movedWithin(int bits, int v) {
        ChairViews x = sheeted(bits, v, 0, v, v, v, v);
        x.move(0, 0, 0, 1, 1);
        return x.judge(0);
    }

    private static void moveOnto() {
        ChairViews x = sheeted(8, 1, 2, 3, 4, 5, 6);
        DUE.is("on by 1", x.move(0, 0, 0, 1, 5), 5);
        DUE.are("on by 1", numbers(x, 0), 1, 1, 2, 3, 4, 5);
        DUE.is("back by 2", x.move(0, 2, 0, 0, 4), 4);
        DUE.are("back by 2", numbers(x, 0), 2, 3, 4, 5, 4, 5);
        DUE.is("all where they are", x.move(0, 0, 0, 0, 6), 6);
        DUE.are("all where they are", numbers(x, 0), 2, 3, 4, 5, 4, 5);
    }

    private static void moveNoSheet() {
        DUE.sheets("move(v, 0, 0, 0, 0)", (x, v) -> x.move(v, 0, 0, 0, 0));
        DUE.sheets("move(0, 0, v, 0, 0)", (x, v) -> x.move(0, 0, v, 0, 0));
        DUE.beyond("move(v, ..), ahead of NONE", ChairViews::new, (x, v) -> x.move(v, 0, 0, 0, 0), -1, 4);
        DUE.beyond("move(.., v, ..), ahead of NONE", ChairViews::new, (x, v) -> x.move(0, 0, v, 0, 0), -1, 4);
    }

    private static void moveMissing() {
        DUE.refuses("the one", Due::furnished, x -> x.move(2, 0, 0, 0, 0), NONE);
        DUE.refuses("the other", Due::furnished, x -> x.move(0, 0, 2, 0, 0), NONE);
        DUE.refuses("both", Due::furnished, x -> x.move(2, 0, 3, 0, 0), NONE);
        DUE.refuses("ahead of BEYOND of n", Due::furnished, x -> x.move(0, 0, 3, 0, -1), NONE);
        DUE.refuses("ahead of BEYOND of i", Due::furnished, x -> x.move(0, 9, 3, 0, 1), NONE);
    }

    private static void moveUnlike() {
        for (int one = 0; one < 3; one++) {
            for (int other = 0; other < 3; other++) {
                int[] pair = {one, other};
                if (one != other) {
                    DUE.refuses("SHEETS " + Arrays.toString(pair), Due::full, x -> x.move(pair[0], 0, pair[1], 0, 1), Due.KIND);
                    DUE.refuses("none of them", Due::full, x -> x.move(pair[0], 0, pair[1], 0, 0), Due.KIND);
                    DUE.refuses("ahead of BEYOND", Due::full, x -> x.move(pair[0], -1, pair[1], 41, -1), Due.KIND);
                }
            }
        }
    }

    private static ChairViews unlikeLengths() {
        ChairViews x = sheeted(8, 1, 2, 3);
        x.sheet(1, 8, 2);
        Due.putAll(x, 1, 4, 5);
        return x;
    }

    private static void moveBeyond() {
        DUE.within("n, of 40", 0, 40, Due::full, (x, v) -> x.move(0, 0, 3, 0, v));
        DUE.within("i, of 40", 0, 39, Due::full, (x, v) -> x.move(0, v, 3, 0, 1));
        DUE.within("j, of 40", 0, 39, Due::full, (x, v) -> x.move(0, 0, 3, v, 1));
        DUE.within("i for none", 0, 40, Due::full, (x, v) -> x.move(0, v, 3, 0, 0));
        DUE.within("j for none", 0, 40, Due::full, (x, v) -> x.move(0, 0, 3, v, 0));
        DUE.within("i for 30", 0, 10, Due::full, (x, v) -> x.move(0, v, 3, 0, 30));
        DUE.within("j for 30", 0, 10, Due::full, (x, v) -> x.move(0, 0, 3, v, 30));
        DUE.within("n, within one of 3", 0, 3, Due::furnished, (x, v) -> x.move(0, 0, 0, 0, v));
        DUE.within("n, from its last on", 0, 1, Due::furnished, (x, v) -> x.move(0, 2, 0, 0, v));
        DUE.within("n, of 3, to one of 2", 0, 2, SheetEdgesTest::unlikeLengths, (x, v) -> x.move(0, 0, 1, 0, v));
        DUE.within("n, of 2, to one of 3", 0, 2, SheetEdgesTest::unlikeLengths, (x, v) -> x.move(1, 0, 0, 0, v));
        DUE.within("i, of 3", 0, 2, SheetEdgesTest::unlikeLengths, (x, v) -> x.move(0, v, 1, 0, 1));
        DUE.within("j, of 2", 0, 1, SheetEdgesTest::unlikeLengths, (x, v) -> x.move(0, 0, 1, v, 1));
        DUE.within("i, of 2", 0, 1, SheetEdgesTest::unlikeLengths, (x, v) -> x.move(1, v, 0, 0, 1));
        DUE.within("j, of 3", 0, 2, SheetEdgesTest::unlikeLengths, (x, v) -> x.move(1, 0, 0, v, 1));
        DUE.refuses("i and n beyond an int", Due::full, x -> x.move(0, MAX, 3, 0, MAX), BEYOND);
        DUE.refuses("j and n beyond an int", Due::full, x -> x.move(0, 0, 3, MAX, MAX), BEYOND);
        DUE.refuses("i below 0, n with it right", Due::full, x -> x.move(0, -5, 3, 0, 10), BEYOND);
        DUE.refuses("n below 0, i with it right", Due::full, x -> x.move(0, 20, 3, 20, -5), BEYOND);
    }

    // ---- promise 34

    private static void speeds() {
        for (int bits : BITS) {
            ChairViews x = sheeted(bits, 0, 99, 1, 98, 50, 49);
            DUE.is("6 of 6", x.speeds(0), 6);
            DUE.are("SPEEDS", numbers(x, 0), 0, 99, 1, 98, 50, 49);
            ChairViews few = sheeted(bits, 7);
            DUE.is("1 of 6", few.speeds(0), 1);
            DUE.is("SPEED of 0", few.ofMember(0, 0), 7);
            DUE.is("SPEED of 1", few.ofMember(1, 0), 10);
            DUE.is("none", sheeted(bits).speeds(0), 0);
        }
    }

    /** MEMBERS, who stand, and CHAIRS, with a SHEET 0. */
    private static ChairViews unlikeHouse(int members, int chairs, int... numbers) {
        ChairViews x = Due.withChairs(new int[2 * chairs]);
        for (int i = 0; i < members; i++) {
            x.member(0);
        }
        x.sheet(0, 8, numbers.length);
        Due.putAll(x, 0, numbers);
        return x;
    }

    private static void speedsUpTo() {
        for (int v : new int[] {100, -1, MAX, MIN, 1000}) {
            ChairViews x = sheeted(32, 5, 6, v, 8);
            DUE.is("up to " + v, x.speeds(0), 2);
            DUE.is("SPEED of 1", x.ofMember(1, 0), 6);
            DUE.is("SPEED of 2", x.ofMember(2, 0), 10);
            DUE.is("SPEED of 3", x.ofMember(3, 0), 10);
            DUE.are("no ERROR", Due.told(x), 0, 0, 0, 0, 0);
        }
        DUE.is("the first isn't", sheeted(8, 100, 5).speeds(0), 0);
        DUE.is("7 for 6", sheeted(8, 1, 2, 3, 4, 5, 6, 7).speeds(0), 6);
        DUE.is("the 7th isn't 0 to 99", sheeted(8, 1, 2, 3, 4, 5, 6, 100).speeds(0), 6);
        DUE.is("40 for 6", Due.full().speeds(0), 6);
        DUE.is("3 for 2, CHAIRS being more", unlikeHouse(2, 6, 5, 6, 7).speeds(0), 2);
        DUE.is("3 for 4, CHAIRS being fewer", unlikeHouse(4, 2, 5, 6, 7).speeds(0), 3);
        ChairViews nobody = new ChairViews();
        nobody.sheet(0, 8, 3);
        DUE.is("3 for nobody", nobody.speeds(0), 0);
        DUE.are("no ERROR", Due.told(nobody), 0, 0, 0, 0, 0);
    }

    private static void speedsNoSheet() {
        DUE.sheets("speeds(v)", ChairViews::speeds);
        DUE.beyond("speeds(v), ahead of NONE", ChairViews::new, ChairViews::speeds, -1, 4);
    }

    private static void speedsMissing() {
        DUE.refuses("SHEET 2", Due::furnished, x -> x.speeds(2), NONE);
        DUE.refuses("SHEET 0 of a new one", ChairViews::new, x -> x.speeds(0), NONE);
        DUE.answers("not one of no numbers", () -> sheeted(8), x -> x.speeds(0), 0);
    }

    // ---- promise 35

    private static ChairViews judged(int... numbers) {
        ChairViews x = Due.seated(Due.withChairs(0, 0, 0, 0, 0, 0), 2, -1, 0);
        x.sheet(0, 8, numbers.length);
        Due.putAll(x, 0, numbers);
        return x;
    }

    private static void judge() {
        DUE.is("the first", judged(1, -1, 0).judge(0), 0);
        DUE.is("the second", judged(2, 0, 0).judge(0), 1);
        DUE.is("the last", judged(2, -1, 1).judge(0), 2);
        DUE.is("of two the first", judged(2, 1, 1).judge(0), 1);
        DUE.is("-1 for one who sits", judged(-1, -1, 0).judge(0), 0);
        DUE.is("one lacks", judged(2, -1).judge(0), 2);
        DUE.is("all lack", judged().judge(0), 0);
        DUE.is("one is too many", judged(2, -1, 0, -1).judge(0), 3);
        DUE.is("a wrong one ahead of one too many", judged(2, -1, 5, -1).judge(0), 2);
        DUE.is("a wrong one ahead of one that lacks", judged(1, -1).judge(0), 0);
        DUE.is("40 for 6", Due.full().judge(0), 0);
        DUE.is("3 for 2, CHAIRS being 3", unlikeHouse(2, 3, -1, -1, -1).judge(0), 2);
        DUE.is("3 for 4, CHAIRS being 3", unlikeHouse(4, 3, -1, -1, -1).judge(0), 3);
        DUE.is("the last of 4, CHAIRS being 1", unlikeHouse(4, 1, -1, -1, -1, 0).judge(0), 3);
        DUE.is("5 for 4, CHAIRS being 1", unlikeHouse(4, 1, -1, -1, -1, -1, -1).judge(0), 4);
        ChairViews nobody = new ChairViews();
        nobody.sheet(0, 8, 1);
        DUE.is("one for nobody", nobody.judge(0), 0);
    }

    private static void judgeAll() {
        DUE.onlyThinks("all are", () -> judged(2, -1, 0), x -> x.judge(0), -1);
        DUE.onlyThinks("all 6 stand", () -> sheeted(16, -1, -1, -1, -1, -1, -1), x -> x.judge(0), -1);
        ChairViews nobody = new ChairViews();
        nobody.sheet(0, 8, 0);
        DUE.is("none for nobody", nobody.judge(0), -1);
        DUE.is("2 for 2, CHAIRS being 6", unlikeHouse(2, 6, -1, -1).judge(0), -1);
        DUE.is("4 for 4, CHAIRS being none", unlikeHouse(4, 0, -1, -1, -1, -1).judge(0), -1);
        ChairViews six = sheeted(32, 5, 4, 3, 2, 1, 0);
        for (int member = 0; member < 6; member++) {
            six.sit(member, 5 - member);
        }
        DUE.is("6 who sit", six.judge(0), -1);
        six.sit(5, -1);
        DUE.is("the last stood up", six.judge(0), 5);
    }

    private static void judgeNoSheet() {
        DUE.sheets("judge(v)", ChairViews::judge);
        DUE.beyond("judge(v), ahead of NONE", ChairViews::new, ChairViews::judge, -1, 4);
    }

    private static void judgeMissing() {
        DUE.refuses("SHEET 2", Due::furnished, x -> x.judge(2), NONE);
        DUE.refuses("SHEET 0 of a new one", ChairViews::new, x -> x.judge(0), NONE);
        DUE.answers("not one of no numbers", () -> judged(), x -> x.judge(0), 0);
    }

    public static void main(String[] args) {
        sentences().runAll(DUE);
    }
}
