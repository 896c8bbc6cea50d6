/** Promises 28 to 41: draws, voices, sheets, images, what is told. */
public final class DrawsSheetsTest {
    private static final Due DUE = new Due();
    private static final int BEYOND = Due.BEYOND;
    private static final int NONE = Due.NONE;

    private static void seed() {
        ChairViews x = new ChairViews();
        DUE.is("28: seed(5)", x.seed(5), 1);
        DUE.is("28: seed(LOW - 1)", x.seed(BEYOND), 5);
        DUE.is("28: any number", x.seed(Integer.MIN_VALUE), BEYOND);
        DUE.is("28: count(9)", x.count(9), Integer.MIN_VALUE);
        x.seed(Due.FULL);
        DUE.is("40: any number", x.count(9), Due.FULL);
        DUE.are("28: which is no ERROR", Due.told(x), 0, 0, 0, 0, 0);
    }

    /** A VOICE of CHAIR 2, of a km. */
    private static void voiceOf(int km, int act, int x, int due, int... bodies) {
        ChairViews house = Due.withChairs(0, 0, 0, 0, km, 0);
        DUE.is("29: voice " + act + " of " + km, house.voice(2, act, x), due);
        DUE.are("30: trace of voice " + act + " of " + km, Due.trace(house), bodies);
    }

    private static void voices() {
        voiceOf(3, 0, 7, 9, 10);
        voiceOf(3, 1, 7, 18, 11, 10);
        voiceOf(3, 2, 7, 4, 12);
        voiceOf(3, 3, 7, 18 ^ 4, 13, 11, 10, 12);
        voiceOf(13, 0, 7, 27, 20, 10);
        voiceOf(13, 1, 7, 54, 11, 20, 10);
        voiceOf(13, 2, 7, 4, 12);
        voiceOf(13, 3, 7, 54 ^ 4, 13, 11, 20, 10, 12);
        voiceOf(23, 0, 7, 9, 10);
        voiceOf(23, 1, 7, 18 - -2, 30, 11, 10, 12);
        voiceOf(23, 2, 7, 4, 12);
        voiceOf(23, 3, 7, 20 ^ 4, 13, 30, 11, 10, 12, 12);
        voiceOf(33, 0, 7, 9, 10);
        voiceOf(33, 1, 7, 18, 11, 10);
        voiceOf(33, 2, 7, -4, 40, 12);
        voiceOf(33, 3, 7, 18 ^ -4, 13, 11, 10, 40, 12);
        voiceOf(43, 0, 7, 27, 20, 10);
        voiceOf(43, 1, 7, 54, 11, 20, 10);
        voiceOf(43, 2, 7, 4, 12);
        voiceOf(43, 3, 7, (54 ^ 4) - 12, 50, 13, 11, 20, 10, 12, 20, 10);
        voiceOf(53, 0, 7, 9, 10);
        voiceOf(53, 1, 7, 20 - -2, 60, 30, 11, 10, 12);
        voiceOf(53, 2, 7, 4, 12);
        voiceOf(53, 3, 7, 22 ^ 4, 13, 60, 30, 11, 10, 12, 12);
        voiceOf(63, 0, 7, 9, 10);
        voiceOf(63, 1, 7, 18, 11, 10);
        voiceOf(63, 2, 7, -4 ^ 2, 70, 40, 12);
        voiceOf(63, 2, 5, -2 ^ 2, 70, 40, 12);
        voiceOf(63, 3, 7, 18 - (18 ^ -4 ^ 2), 71, 11, 10, 13, 11, 10, 70, 40, 12);
    }

    private static void voicesAtTheEdges() {
        voiceOf(0, 0, Integer.MAX_VALUE, Integer.MIN_VALUE + 1, 10);
        voiceOf(9, 2, Integer.MIN_VALUE, Integer.MAX_VALUE - 8, 12);
        voiceOf(30, 2, Integer.MIN_VALUE, Integer.MIN_VALUE, 40, 12);
        voiceOf(0, 0, BEYOND - 2, BEYOND, 10);
        ChairViews x = Due.withChairs(0, 0);
        DUE.is("29: any number", x.voice(0, 0, BEYOND), BEYOND);
        DUE.are("29: which is no ERROR", Due.told(x), 0, 0, 0, 0, 0);
        DUE.refuses("29: voice(-1, 0, 0)", Due::furnished, y -> y.voice(-1, 0, 0), BEYOND);
        DUE.refuses("29: voice(4, 0, 0)", Due::furnished, y -> y.voice(4, 0, 0), BEYOND);
        DUE.refuses("29: voice(0, -1, 0)", Due::furnished, y -> y.voice(0, -1, 0), BEYOND);
        DUE.refuses("29: voice(0, 4, 0)", Due::furnished, y -> y.voice(0, 4, 0), BEYOND);
    }

    private static void trace() {
        ChairViews x = Due.withChairs(60, 0, 0, 0);
        x.voice(0, 3, 1);
        DUE.is("30: 9 BODIES", x.count(8), 9);
        DUE.is("30: the first", x.trace(0), 71);
        DUE.is("30: the last", x.trace(8), 12);
        x.voice(1, 1, 1);
        DUE.are("30: of the latest voice alone", Due.trace(x), 11, 10);
        DUE.is("30: trace(2)", x.trace(2), NONE);
        x.image();
        x.voice(1, 0, 1);
        x.restore();
        DUE.are("30: an IMAGE doesn't keep it", Due.trace(x), 10);
        DUE.refuses("30: trace(-1)", Due::furnished, y -> y.trace(-1), NONE);
        DUE.refuses("30: trace(9)", Due::furnished, y -> y.trace(9), NONE);
        DUE.refuses("30: trace(40)", Due::furnished, y -> y.trace(40), NONE);
    }

    private static ChairViews sheeted(int bits, int... numbers) {
        ChairViews x = Due.seated(Due.withChairs(0, 0, 0, 0, 0, 0), -1, -1, -1, -1);
        x.sheet(0, bits, numbers.length);
        Due.putAll(x, 0, numbers);
        return x;
    }

    /** What the first numbers of a sheet are, as SPEEDS, so that they can be seen. */
    private static int[] numbersOf(ChairViews x, int sheet) {
        int n = x.speeds(sheet);
        int[] all = new int[Math.max(n, 0)];
        for (int i = 0; i < all.length; i++) {
            all[i] = x.ofMember(i, 0);
        }
        return all;
    }

    private static void sheet() {
        ChairViews x = sheeted(8, 5, 6, 7);
        DUE.is("31: sheet(0, 8, 2)", x.sheet(0, 8, 2), 1);
        DUE.are("31: all 0", numbersOf(x, 0), 0, 0);
        DUE.is("31: sheet(0, 16, 40)", x.sheet(0, 16, 40), 1);
        DUE.is("31: the last number", x.put(0, 39, 1), 1);
        DUE.is("31: one more", x.put(0, 40, 1), BEYOND);
        DUE.is("31: of no numbers", x.sheet(0, 32, 0), 1);
        DUE.is("31: it isn't missing", x.put(0, 0, 1), BEYOND);
        DUE.is("31: missing", x.sheet(0, 0, -9), 1);
        DUE.is("31: it is", x.put(0, 0, 1), NONE);
        DUE.is("31: missing", x.sheet(3, 0, 41), 1);
        DUE.refuses("31: sheet(-1, 8, 1)", Due::furnished, y -> y.sheet(-1, 8, 1), BEYOND);
        DUE.refuses("31: sheet(4, 8, 1)", Due::furnished, y -> y.sheet(4, 8, 1), BEYOND);
        DUE.refuses("31: sheet(0, 7, 1)", Due::furnished, y -> y.sheet(0, 7, 1), BEYOND);
        DUE.refuses("31: sheet(0, 64, 1)", Due::furnished, y -> y.sheet(0, 64, 1), BEYOND);
        DUE.refuses("31: sheet(0, -8, 1)", Due::furnished, y -> y.sheet(0, -8, 1), BEYOND);
        DUE.refuses("31: sheet(0, 8, -1)", Due::furnished, y -> y.sheet(0, 8, -1), Due.STATE);
        DUE.refuses("31: sheet(0, 8, 41)", Due::furnished, y -> y.sheet(0, 8, 41), BEYOND);
        DUE.refuses("31: BEYOND ahead of STATE", Due::furnished, y -> y.sheet(0, 9, -1), BEYOND);
        DUE.refuses("31: BEYOND ahead of STATE", Due::furnished, y -> y.sheet(4, 8, -1), BEYOND);
        x = sheeted(8, 5, 6, 7);
        x.sheet(0, 8, -1);
        x.sheet(0, 16, 41);
        DUE.are("31: an ERROR leaves it", numbersOf(x, 0), 5, 6, 7);
    }

    private static void put() {
        ChairViews x = sheeted(8, 0, 0, 0);
        DUE.is("32: put(0, 0, 261)", x.put(0, 0, 261), 1);
        DUE.is("32: put(0, 1, 99)", x.put(0, 1, 99), 1);
        DUE.is("32: put(0, 2, -200)", x.put(0, 2, -200), 1);
        DUE.are("32: the lowest 8 bits", numbersOf(x, 0), 5, 99, 56);
        x.put(0, 1, 200);
        DUE.are("32: the highest is the sign", numbersOf(x, 0), 5);
        x = sheeted(16, 65536 + 7, 300 - 65536, 1);
        DUE.are("32: the lowest 16 bits", numbersOf(x, 0), 7);
        x.put(0, 1, 256);
        DUE.are("32: 16 bits are more than 8", numbersOf(x, 0), 7);
        x = sheeted(32, 65536 + 7);
        DUE.are("32: 32 bits are more than 16", numbersOf(x, 0));
        x = sheeted(8, 255, 1, 2, -1);
        DUE.is("32: 255 is -1 in 8 bits", x.judge(0), 1);
        x = sheeted(16, 255, 65535);
        DUE.is("32: 255 is not in 16 bits", x.judge(0), 0);
        x.put(0, 0, 65535);
        DUE.is("32: 65535 is", x.judge(0), 2);
        DUE.refuses("32: put(-1, 0, 0)", Due::furnished, y -> y.put(-1, 0, 0), BEYOND);
        DUE.refuses("32: put(4, 0, 0)", Due::furnished, y -> y.put(4, 0, 0), BEYOND);
        DUE.refuses("32: missing", Due::furnished, y -> y.put(3, 0, 0), NONE);
        DUE.refuses("32: NONE ahead of BEYOND", Due::furnished, y -> y.put(3, -1, 0), NONE);
        DUE.refuses("32: put(0, -1, 0)", Due::furnished, y -> y.put(0, -1, 0), BEYOND);
        DUE.refuses("32: put(0, 3, 0)", Due::furnished, y -> y.put(0, 3, 0), BEYOND);
    }

    private static void move() {
        ChairViews x = sheeted(8, 1, 2, 3, 4);
        DUE.is("33: on", x.move(0, 0, 0, 1, 3), 3);
        DUE.are("33: as they all were", numbersOf(x, 0), 1, 1, 2, 3);
        DUE.is("33: back", x.move(0, 1, 0, 0, 3), 3);
        DUE.are("33: as they all were", numbersOf(x, 0), 1, 2, 3, 3);
        x.sheet(1, 8, 2);
        DUE.is("33: to another", x.move(0, 1, 1, 0, 2), 2);
        DUE.are("33: it", numbersOf(x, 1), 2, 3);
        DUE.is("33: none, from the end", x.move(0, 4, 1, 2, 0), 0);
        DUE.is("33: none, from behind the end", x.move(0, 5, 1, 0, 0), BEYOND);
        DUE.is("33: none, to behind the end", x.move(0, 0, 1, 3, 0), BEYOND);
        DUE.is("33: too many for it", x.move(0, 0, 1, 0, 3), BEYOND);
        DUE.is("33: too many from there", x.move(1, 1, 0, 0, 2), BEYOND);
        int most = Integer.MAX_VALUE;
        DUE.is("33: n", x.move(0, 1, 1, 1, most), BEYOND);
        DUE.is("33: i", x.move(0, most, 1, 1, 1), BEYOND);
        DUE.is("33: j", x.move(0, 1, 1, most, 1), BEYOND);
        DUE.is("33: n below 0", x.move(0, 1, 1, 1, -1), BEYOND);
        DUE.is("33: n far below 0", x.move(0, 1, 1, 1, Integer.MIN_VALUE), BEYOND);
        DUE.is("33: i below 0", x.move(0, -1, 1, 0, 1), BEYOND);
        DUE.is("33: j below 0", x.move(0, 0, 1, -1, 1), BEYOND);
        DUE.are("33: which changed nothing", numbersOf(x, 1), 2, 3);
        DUE.is("33: missing, the other", x.move(0, 0, 2, 0, -1), NONE);
        DUE.is("33: missing, the one", x.move(2, 0, 0, 0, 1), NONE);
        DUE.is("33: no such SHEET, ahead of NONE", x.move(2, 0, 4, 0, 1), BEYOND);
        DUE.is("33: no such SHEET", x.move(-1, 0, 0, 0, 1), BEYOND);
        x.sheet(2, 16, 3);
        DUE.is("33: KIND ahead of BEYOND", x.move(0, 0, 2, 0, -1), Due.KIND);
        DUE.is("33: KIND", x.move(2, 0, 0, 0, 1), Due.KIND);
        x.sheet(3, 16, 3);
        x.put(2, 0, 30000);
        x.move(2, 0, 3, 1, 2);
        x.put(3, 0, 8);
        DUE.are("33: of 16 bits", numbersOf(x, 3), 8);
        DUE.refuses("33: KIND", Due::furnished, y -> y.move(0, 0, 1, 0, 1), Due.KIND);
        DUE.refuses("33: NONE", Due::furnished, y -> y.move(0, 0, 3, 0, 1), NONE);
        DUE.refuses("33: BEYOND", Due::furnished, y -> y.move(0, 0, 0, 0, 4), BEYOND);
    }

    private static void speeds() {
        ChairViews x = sheeted(8, 0, 99, 50);
        DUE.is("34: speeds(0)", x.speeds(0), 3);
        DUE.is("34: SPEED of 0", x.ofMember(0, 0), 0);
        DUE.is("34: SPEED of 1", x.ofMember(1, 0), 99);
        DUE.is("34: SPEED of 2", x.ofMember(2, 0), 50);
        DUE.is("34: SPEED of 3", x.ofMember(3, 0), 10);
        x = sheeted(8, 7, 100, 50);
        DUE.is("34: up to 100", x.speeds(0), 1);
        DUE.is("34: SPEED of 0", x.ofMember(0, 0), 7);
        DUE.is("34: SPEED of 1", x.ofMember(1, 0), 10);
        DUE.is("34: SPEED of 2", x.ofMember(2, 0), 10);
        DUE.is("34: no ERROR", x.told(1), 0);
        DUE.is("34: up to -1", sheeted(32, 7, 5, -1, 50).speeds(0), 2);
        DUE.is("34: more than there are MEMBERS", sheeted(16, 1, 2, 3, 4, 5, 6).speeds(0), 4);
        DUE.is("34: none", sheeted(16).speeds(0), 0);
        DUE.refuses("34: speeds(-1)", Due::furnished, y -> y.speeds(-1), BEYOND);
        DUE.refuses("34: speeds(4)", Due::furnished, y -> y.speeds(4), BEYOND);
        DUE.refuses("34: missing", Due::furnished, y -> y.speeds(3), NONE);
    }

    private static void judge() {
        ChairViews x = sheeted(8, 2, -1, 0, 1);
        DUE.is("35: the first", x.judge(0), 0);
        x.sit(0, 2);
        DUE.is("35: the third", x.judge(0), 2);
        x.sit(2, 0);
        x.sit(3, 1);
        DUE.is("35: all are", x.judge(0), -1);
        x.sheet(1, 8, 3);
        x.move(0, 0, 1, 0, 3);
        DUE.is("35: one lacks", x.judge(1), 3);
        x.sheet(1, 8, 5);
        x.move(0, 0, 1, 0, 4);
        DUE.is("35: one is too many", x.judge(1), 4);
        x.put(1, 4, -1);
        DUE.is("35: even one that would stand", x.judge(1), 4);
        DUE.is("35: nobody, nothing", withSheet(0).judge(0), -1);
        DUE.is("35: nobody, something", withSheet(1).judge(0), 0);
        DUE.refuses("35: judge(-1)", Due::furnished, y -> y.judge(-1), BEYOND);
        DUE.refuses("35: judge(4)", Due::furnished, y -> y.judge(4), BEYOND);
        DUE.refuses("35: missing", Due::furnished, y -> y.judge(3), NONE);
    }

    private static ChairViews withSheet(int n) {
        ChairViews x = new ChairViews();
        x.sheet(0, 32, n);
        return x;
    }

    private static void images() {
        ChairViews x = Due.furnished();
        String before = Due.seen(x);
        DUE.is("36: image()", x.image(), 1);
        Due.changeAll(x);
        DUE.is("37: restore()", x.restore(), 3);
        x.voice(3, 3, 1);
        DUE.is("37: all is as it was", before.equals(Due.seen(x)) ? 1 : 0, 1);
        Due.changeAll(x);
        DUE.is("37: restore() again", x.restore(), 3);
        x.voice(3, 3, 1);
        DUE.is("37: the IMAGE stays", before.equals(Due.seen(x)) ? 1 : 0, 1);
        x.sittings(1);
        DUE.is("36: in place of one ahead", x.image(), 2);
        x.sittings(4);
        DUE.is("37: restore() of the new one", x.restore(), 4);
        DUE.is("36: how often isn't kept", x.image(), 3);
        DUE.refuses("37: there is none", Due::furnished, y -> y.restore(), NONE);
    }

    private static void imagesOfTapeAndWaiting() {
        ChairViews x = Due.withChairs(0, 1);
        x.member(0);
        Due.feed(x, "k+");
        x.tell(1);
        x.tell(5);
        x.image();
        x.text(0);
        x.check();
        x.sheet(0, 8, 1);
        x.restore();
        Due.feed(x, "41");
        DUE.is("37: THE TAPE's bytes", x.text(0), 1);
        DUE.is("37: THE TAPE's bytes", x.law(0, 1, 0, 0), 42);
        DUE.is("37: the numbers that wait", x.check(), 2);
        DUE.is("37: SHEETS stay", x.put(0, 0, 0), 1);
        x.trace(0);
        x.trace(0);
        x.restore();
        DUE.is("37: what told() tells stays", x.told(2), 2);
        DUE.is("37: TEXTS go", x.law(0, 1, 0, 0), 1);
    }

    private static void tell() {
        ChairViews x = new ChairViews();
        for (int i = 1; i <= 20; i++) {
            DUE.is("38: tell", x.tell(-i), i);
        }
        DUE.is("38: FULL", x.tell(0), Due.FULL);
        DUE.is("38: 20 wait", x.count(7), 20);
        x.check();
        DUE.is("38: after check()", x.tell(Integer.MIN_VALUE), 1);
        DUE.refuses("38: FULL", DrawsSheetsTest::fullOfTold, y -> y.tell(1), Due.FULL);
    }

    private static ChairViews fullOfTold() {
        ChairViews x = Due.furnished();
        while (x.count(7) < 20) {
            x.tell(1);
        }
        return x;
    }

    private static int checked(int... numbers) {
        ChairViews x = Due.withChairs(0, 0b1110);
        x.stuff(0, 1, 0b0110);
        x.member(0);
        for (int number : numbers) {
            x.tell(number);
        }
        int answer = x.check();
        DUE.is("39: none wait then", x.count(7), 0);
        DUE.is("39: it is only thought", x.count(2) * 1000 + x.count(3), 0);
        DUE.is("39: it is only thought", x.ofChair(0, 3), 0b0110);
        return answer;
    }

    private static void check() {
        DUE.is("39: none", checked(), 0);
        DUE.is("39: one", checked(0b1000), 0);
        DUE.is("39: three", checked(0b1000, 0b1010, 0b1110), 0);
        DUE.is("39: the first isn't", checked(0b1010, 0b1010, 0b1110), 1);
        DUE.is("39: the second isn't", checked(0b1000, 0b1000, 0b1110), 2);
        DUE.is("39: the third isn't", checked(0b1000, 0b1010, -1), 3);
        DUE.is("39: 20", checked(8, 10, 14, 14, 14, 14, 14, 14, 14, 14, 14, 14, 14, 14, 14, 14, 14, 14, 14, 15), 20);
    }

    private static void count() {
        ChairViews x = Due.withChairs(0, 3, 58, 0, 60, 1);
        Due.seated(x, 1, -1, 2, -1);
        DUE.is("40: CHAIRS", x.count(0), 3);
        DUE.is("40: MEMBERS", x.count(1), 4);
        DUE.is("40: how many sit", x.count(4), 2);
        DUE.is("40: WEIGHTS of those taken", x.count(5), 5);
        x.sittings(2);
        DUE.is("40: SITTING", x.count(2), 2);
        DUE.is("40: LAWS", x.count(3), x.then(0, -1));
        DUE.is("40: how many sit", x.count(4), 3);
        DUE.is("40: WEIGHTS", x.count(5), 6);
        x.feed(0L, 5);
        DUE.is("40: bytes", x.count(6), 5);
        x.tell(1);
        DUE.is("40: numbers that wait", x.count(7), 1);
        x.voice(0, 1, 1);
        DUE.is("40: BODIES", x.count(8), 2);
        x.seed(77);
        DUE.is("40: z", x.count(9), 77);
        DUE.refuses("40: count(-1)", Due::furnished, y -> y.count(-1), BEYOND);
        DUE.refuses("40: count(10)", Due::furnished, y -> y.count(10), BEYOND);
    }

    private static void told() {
        ChairViews x = new ChairViews();
        x.chair(70, 0);
        x.chair(0, 0);
        x.as(0, 1);
        x.as(0, 2);
        x.power(0);
        x.sheet(0, 8, -1);
        x.sheet(0, 8, -1);
        x.restore();
        for (int i = 0; i < 24; i++) {
            x.tell(i);
        }
        DUE.are("41: told", Due.told(x), 1, 1, 3, 4, 2);
        DUE.is("41: told(0)", x.told(0), BEYOND);
        DUE.is("41: told(6)", x.told(6), BEYOND);
        DUE.is("41: told(-1)", x.told(-1), BEYOND);
        DUE.are("41: counted, too", Due.told(x), 4, 1, 3, 4, 2);
        DUE.refuses("41: told(6)", Due::furnished, y -> y.told(6), BEYOND);
    }

    public static void main(String[] args) {
        seed();
        voices();
        voicesAtTheEdges();
        trace();
        sheet();
        put();
        move();
        speeds();
        judge();
        images();
        imagesOfTapeAndWaiting();
        tell();
        check();
        count();
        told();
        DUE.end();
    }
}
