/** The sentences of Terms 2, and of promises 11 to 13: THE TAPE, texts, what they give. */
public final class TextEdgesTest {
    private static final Due DUE = new Due();
    private static final int BEYOND = Due.BEYOND;
    private static final int MIN = Integer.MIN_VALUE;
    private static final int MAX = Integer.MAX_VALUE;

    static Sentences sentences() {
        return new Sentences().in("Terms 2")
            .hold("TEXTS are read from THE TAPE (bytes, at most 50):", TextEdgesTest::tape)
            .hold("T: A { | A }.", TextEdgesTest::alternatives)
            .hold("A: B { & B }.", TextEdgesTest::conditions)
            .hold("B: S, or S < S, S = S, S > S.", TextEdgesTest::comparisons)
            .hold("S: P { + P, - P }.", TextEdgesTest::sums)
            .hold("P: Q { * Q, / Q, % Q }.", TextEdgesTest::products)
            .hold("Q: a NUMBER of 1 to 4 digits,", TextEdgesTest::numbers)
            .hold("a NAME,", TextEdgesTest::names)
            .hold("! Q, ( T ).", TextEdgesTest::notAndBrackets)
            .hold("No blanks.", TextEdgesTest::blanks)
            .hold("At most 5 of ! and ( are open at once.", TextEdgesTest::open)
            .hold("Ints that wrap;", TextEdgesTest::wrap)
            .hold("/ cut, % the rest that it leaves,", TextEdgesTest::quotients)
            .hold("both by 0 are 0;", TextEdgesTest::byNothing)
            .hold("| & < = > ! are 1 or 0, what is not 0 being true;", TextEdgesTest::truth)
            .hold("all is worked out.", TextEdgesTest::allIsWorkedOut)
            .hold("FAULT: the place of the first byte with which no TEXT goes on;", TextEdgesTest::faults)
            .hold("how many there are, if it ends too early.", TextEdgesTest::tooEarly)
            .hold("USES: 0 WEIGHT, NAMES k how many BILLS its VIEWS have, c how many its CUSHION, s SITTING;",
                TextEdgesTest::weightNames)
            .hold("held within 0 to 99;", TextEdgesTest::weightHeld)
            .hold("without a TEXT 1.", TextEdgesTest::weightWithout)
            .hold("1 ZEAL, NAMES h whether the CHAIR is for his HOBBY (1, else 0; by VIEWS, CUSHION), "
                + "n the number of the CHAIR, v SPEED;", TextEdgesTest::zealNames)
            .hold("held within -99 to 99;", TextEdgesTest::zealHeld)
            .hold("without a TEXT h*10-n.", TextEdgesTest::zealWithout)
            .in("Promise 11")
            .hold("The n lowest bytes (1 .. 8) of a word, the lowest first, come to THE TAPE: how many there are.",
                TextEdgesTest::feed)
            .hold("BEYOND.", TextEdgesTest::feedBeyond)
            .hold("FULL.", TextEdgesTest::feedFull)
            .in("Promise 12")
            .hold("THE TAPE, which is empty then, is the TEXT of a USE (0, 1), in place of one ahead: 1.",
                TextEdgesTest::text)
            .hold("BEYOND (THE TAPE stays).", TextEdgesTest::textBeyond)
            .hold("-10 less the FAULT (no ERROR; the one ahead stays).", TextEdgesTest::textFault)
            .in("Promise 13")
            .hold("What a USE gives with its NAMES in order as a, b, c.", TextEdgesTest::law)
            .hold("BEYOND.", TextEdgesTest::lawBeyond);
    }

    private static ChairViews withText(int use, String text) {
        ChairViews x = new ChairViews();
        DUE.is(text, Due.textOf(x, use, text), 1);
        return x;
    }

    private static void gives(String text, int due) {
        DUE.is(text, withText(0, text).law(0, 0, 0, 0), due);
    }

    /** By USE 1, of which less than 0 can be seen. */
    private static void givesOf(String text, int h, int n, int due) {
        DUE.is(text + " of " + h + ", " + n, withText(1, text).law(1, h, n, 0), due);
    }

    private static void right(String text) {
        withText(0, text);
    }

    private static void fault(String text, int place) {
        DUE.is(text, Due.textOf(new ChairViews(), 0, text), -10 - place);
    }

    // ---- Terms 2

    private static void tape() {
        String most = "k+k+k+k+k+k+k+k+k+k+k+k+k+k+k+k+k+k+k+k+k+k+k+k+10";
        ChairViews x = new ChairViews();
        DUE.is("50 bytes", Due.feed(x, most), 50);
        DUE.is("51", x.feed('1', 1), Due.FULL);
        DUE.is("50 bytes are a TEXT", x.text(0), 1);
        DUE.is("what it gives", x.law(0, 3, 0, 0), 82);
        gives("1|1&1<1+1*(1|1&1<1+1*(1|1&1<1+1*(1|1&1<1+1*9)))*0", 1);
        right("!!!!!k|!!!!!k|!!!!!k|!!!!!k|!!!!!k|!!!!!k|!!!!!k|k");
        fault(most.substring(0, 49) + "+", 50);
        fault(most.substring(0, 49) + "k", 49);
        DUE.is("bytes of any number", new ChairViews().feed(0x00FF80017F00FF80L, 8), 8);
    }

    private static void needsBothSides(char sign) {
        fault(sign + "1", 0);
        fault("1" + sign, 2);
        fault("1" + sign + ")", 2);
        fault("(" + sign + "1)", 1);
        fault("1" + sign + sign + "1", 2);
        right("1" + sign + "1");
    }

    private static void alternatives() {
        needsBothSides('|');
        gives("0|0", 0);
        gives("0|0|0|1", 1);
        gives("1|1&0", 1);
        gives("7", 7);
    }

    private static void conditions() {
        needsBothSides('&');
        gives("1&1", 1);
        gives("1&1&1&0", 0);
        gives("2&1<2", 1);
        gives("0&1|1", 1);
        gives("(7)", 7);
    }

    private static void comparisons() {
        for (char one : new char[] {'<', '=', '>'}) {
            needsBothSides(one);
            for (char more : new char[] {'<', '=', '>'}) {
                fault("1" + one + "2" + more + "3", 3);
                fault("(1" + one + "2" + more + "3)", 4);
                right("(1" + one + "2)" + more + "3");
                right("1" + one + "(2" + more + "3)");
                right("1" + one + "2&2" + more + "3|1" + one + "4");
            }
        }
        gives("1+1<3", 1);
        gives("3>1+1", 1);
        gives("1+1=2", 1);
    }

    private static void sums() {
        needsBothSides('+');
        needsBothSides('-');
        gives("30-4-3-2", 21);
        gives("30-4+3", 29);
        gives("30-4*3", 18);
        fault("1+-1", 2);
    }

    private static void products() {
        needsBothSides('*');
        needsBothSides('/');
        needsBothSides('%');
        gives("2*3*4", 24);
        gives("90/3/2", 15);
        gives("90%50%7", 5);
        gives("9/2*2", 8);
        gives("9*2/4%3", 1);
    }

    private static void numbers() {
        gives("0", 0);
        gives("7", 7);
        gives("0007", 7);
        gives("9999-9900", 99);
        gives("1000-0901", 99);
        fault("00000", 4);
        fault("12345", 4);
        fault("1+12345", 6);
        fault("(12345)", 5);
        fault("!12345", 5);
        fault("", 0);
        fault("1 2", 1);
        fault("1k", 1);
        fault("k1", 1);
        fault("/1", 0);
        fault(":1", 0);
    }

    private static void names() {
        for (int i = 0; i < 3; i++) {
            String own = "kcs".substring(i, i + 1);
            String other = "hnv".substring(i, i + 1);
            right(own);
            fault(other, 0);
            fault("1+" + other, 2);
            fault(own + own, 1);
            fault(own.toUpperCase(), 0);
            DUE.is("USE 1, " + other, Due.textOf(new ChairViews(), 1, other), 1);
            DUE.is("USE 1, " + own, Due.textOf(new ChairViews(), 1, own), -10);
        }
    }

    private static void notAndBrackets() {
        gives("!0", 1);
        gives("!(0)", 1);
        gives("!0+1", 2);
        gives("!(0+1)", 0);
        gives("!0*5", 5);
        gives("(1|1)+(1&1)+(1<2)", 3);
        fault("!", 1);
        fault("1!", 1);
        fault("!*", 1);
        fault("(", 1);
        fault("()", 1);
        fault("(1", 2);
        fault("(1))", 3);
        fault(")", 0);
        fault("(1)1", 3);
        fault("(1)(1)", 3);
        fault("(1)!1", 3);
    }

    private static void blanks() {
        String text = "k+(1<!c)";
        for (int place = 0; place <= text.length(); place++) {
            for (String blank : new String[] {" ", "\t", "\n", "\r", "\0", "\u00a0"}) {
                fault(text.substring(0, place) + blank + text.substring(place), place);
            }
        }
    }

    private static void open() {
        String[] five = {"(((((", "!!!!!", "(!(!(", "!(!(!", "((!((", "!!(!!"};
        for (String some : five) {
            String closed = ")".repeat((int) some.chars().filter(c -> c == '(').count());
            right(some + "1" + closed);
            right(some + "1" + closed + "+" + some + "1" + closed);
            fault(some + "!1" + closed, 5);
            fault(some + "(1)" + closed, 5);
        }
        right("((((!1+!1*!1))))");
        right("((((!1+(1)*!1))))");
        fault("((((!1+!!1))))", 8);
        fault("((((!1+!(1)))))", 8);
        fault("!(((!(1))))", 5);
        right("(((((1)))))+!!!!!1-(((((k)))))");
    }

    private static void wrap() {
        givesOf("h+n", MAX, 1, -99);
        givesOf("h+n<h", MAX, MAX, 1);
        givesOf("h-n", MIN, 1, 99);
        givesOf("h-1-n", MIN, MAX, 0);
        givesOf("h*n", 65536, 65536, 0);
        givesOf("h*n", 65536, 32768, -99);
        givesOf("h*n-n", MAX, MAX, -99);
        givesOf("h*n+1-2", MAX, MAX, 0);
        givesOf("9999*9999*9999%10", 0, 0, -9);
    }

    private static void quotients() {
        givesOf("h/n", 7, 2, 3);
        givesOf("h/n", -7, 2, -3);
        givesOf("h/n", 7, -2, -3);
        givesOf("h/n", -7, -2, 3);
        givesOf("h/n", 1, 2, 0);
        givesOf("h/n", -1, 2, 0);
        givesOf("h/n", MIN, -1, -99);
        givesOf("h/n=h", MIN, -1, 1);
        givesOf("h%n", 7, 2, 1);
        givesOf("h%n", -7, 2, -1);
        givesOf("h%n", 7, -2, 1);
        givesOf("h%n", -7, -2, -1);
        givesOf("h%n", 8, 2, 0);
        givesOf("h%n", MIN, -1, 0);
    }

    private static void byNothing() {
        for (int h : new int[] {0, 1, -1, 7, MAX, MIN}) {
            givesOf("h/n", h, 0, 0);
            givesOf("h%n", h, 0, 0);
            givesOf("5+h/0", h, 0, 5);
            givesOf("5+h%(n-n)", h, 3, 5);
        }
    }

    private static void truth() {
        int[] some = {0, 1, 2, -1, MIN, MAX};
        for (int h : some) {
            givesOf("!h", h, 0, h == 0 ? 1 : 0);
            givesOf("!!h", h, 0, h == 0 ? 0 : 1);
            for (int n : some) {
                givesOf("h|n", h, n, h != 0 || n != 0 ? 1 : 0);
                givesOf("h&n", h, n, h != 0 && n != 0 ? 1 : 0);
                givesOf("h<n", h, n, h < n ? 1 : 0);
                givesOf("h=n", h, n, h == n ? 1 : 0);
                givesOf("h>n", h, n, h > n ? 1 : 0);
            }
        }
    }

    private static void allIsWorkedOut() {
        gives("0&1/0", 0);
        gives("1|1%0", 1);
        gives("0&(0&(0&0))|1", 1);
        fault("0&12345", 6);
        fault("1|h", 2);
    }

    /** Each of the 256 bytes behind a beginning: those that go on, and no others. */
    private static void goOn(String beginning, String bytes) {
        ChairViews x = new ChairViews();
        for (int b = 0; b < 256; b++) {
            String text = beginning + (char) b;
            int answer = Due.textOf(x, 0, text);
            boolean goesOn = answer == 1 || answer == -10 - text.length();
            DUE.is(beginning + ", then byte " + b + " goes on", goesOn ? 1 : 0, bytes.indexOf(b) >= 0 ? 1 : 0);
            DUE.is(beginning + ", then byte " + b, goesOn ? 0 : answer, goesOn ? 0 : -10 - beginning.length());
            x = b % 100 == 99 ? new ChairViews() : x;
        }
    }

    private static void faults() {
        String digits = "0123456789";
        String operands = digits + "kcs!(";
        String signs = "|&<=>+-*/%";
        goOn("", operands);
        goOn("k", signs);
        goOn("1", signs + digits);
        goOn("123", signs + digits);
        goOn("1234", signs);
        goOn("k<c", "|&+-*/%");
        goOn("k<c*1234", "|&+-*/%");
        goOn("k<c&s", signs);
        goOn("(k<c)", signs);
        goOn("(k", signs + ")");
        goOn("(k<c", "|&+-*/%)");
        goOn("k=", operands);
        goOn("!", operands);
        goOn("!!!!!", digits + "kcs");
        goOn("((((!", digits + "kcs");
        goOn("((((!k", signs + ")");
        goOn("((((!k*", operands);
        goOn("((((k)", signs + ")");
        goOn("(k)", signs);
        fault("k+)c(!", 2);
        fault("h+h", 0);
    }

    private static void tooEarly() {
        String text = "((!k+12<c%3)|s)*9/!0";
        right(text);
        String ends = "((!k+12<c%3)|s";
        for (int n = 0; n <= ends.length(); n++) {
            fault(text.substring(0, n), n);
        }
        right(text.substring(0, 15));
        fault(text.substring(0, 16), 16);
        right(text.substring(0, 17));
        fault(text.substring(0, 18), 18);
        fault(text.substring(0, 19), 19);
    }

    private static void weightNames() {
        ChairViews x = Due.withChairs(0, 0);
        Due.textOf(x, 0, "k*10+c");
        DUE.is("no VIEWS, no CUSHION", x.ofChair(0, 5), 0);
        x.stuff(0, 0, 255);
        DUE.is("all VIEWS", x.ofChair(0, 5), 80);
        x.stuff(0, 1, 255);
        DUE.is("all VIEWS, all of a CUSHION", x.ofChair(0, 5), 88);
        x.stuff(0, 0, 128);
        x.stuff(0, 1, 1);
        DUE.is("the last, the first", x.ofChair(0, 5), 11);
        Due.textOf(x, 0, "s");
        DUE.is("SITTING 0", x.ofChair(0, 5), 0);
        x.sittings(60);
        DUE.is("SITTING 60", x.ofChair(0, 5), 60);
        ChairViews late = Due.late(9999);
        Due.textOf(late, 0, "s-9900");
        DUE.is("SITTING 9999", late.ofChair(0, 5), 99);
    }

    /** What a TEXT of its first NAME alone gives, for pairs of what that is and what is due. */
    private static void held(ChairViews x, int use, int[][] pairs) {
        for (int[] pair : pairs) {
            DUE.is("law(" + use + ", " + pair[0] + ", ..)", x.law(use, pair[0], 0, 0), pair[1]);
        }
    }

    private static void weightHeld() {
        held(withText(0, "k"), 0, new int[][] {
            {-1, 0}, {0, 0}, {1, 1}, {98, 98}, {99, 99}, {100, 99}, {MIN, 0}, {MAX, 99}});
        ChairViews heavy = Due.seated(Due.withChairs(0, 255, 59, 255, 60, 255, 0, 0), 0, 1, 2, 3);
        Due.textOf(heavy, 0, "k*20-1");
        DUE.is("a CHAIR of 159", heavy.ofChair(0, 5), 99);
        DUE.is("a BENCH, 3 more than that", heavy.ofChair(1, 5), 102);
        DUE.is("a CROWN, twice that", heavy.ofChair(2, 5), 198);
        DUE.is("a CHAIR of -1", heavy.ofChair(3, 5), 0);
        DUE.is("together", heavy.count(5), 399);
    }

    private static void weightWithout() {
        ChairViews x = Due.withChairs(0, 255);
        DUE.is("WEIGHT", x.ofChair(0, 5), 1);
        for (int v : new int[] {0, 5, -1, MIN, MAX}) {
            DUE.is("law(0, ..)", x.law(0, v, v, v), 1);
        }
        Due.textOf(x, 0, "k+");
        DUE.is("behind a FAULT", x.law(0, 5, 5, 5), 1);
        Due.textOf(x, 1, "5");
        DUE.is("behind a TEXT of the other USE", x.law(0, 5, 5, 5), 1);
    }

    private static int[] atBehindRun(ChairViews x, String zeal) {
        Due.textOf(x, 1, zeal);
        x.run();
        return Due.at(x);
    }

    private static void zealNames() {
        ChairViews x = Due.withChairs(0, 0b01, 0, 0b11, 0, 0b10, 0, 0b00);
        x.stuff(1, 1, 0b01);
        x.stuff(3, 1, 0b10);
        x.member(0);
        DUE.are("h by VIEWS", atBehindRun(x, "h"), 0);
        x.stuff(0, 0, 0);
        DUE.are("not in VIEWS and CUSHION", atBehindRun(x, "h"), 0);
        DUE.are("h is 0, the greatest", atBehindRun(x, "!h*n"), 3);
        x.change(0, 1, 1);
        DUE.are("h by the HOBBY", atBehindRun(x, "h*(n+1)"), 3);
        x.stuff(3, 1, 0);
        DUE.are("h by VIEWS", atBehindRun(x, "h*(n+1)"), 2);
        DUE.are("h is 1", atBehindRun(x, "(h=1)*(5-n)"), 1);
        DUE.are("h is no more than 1", atBehindRun(x, "(h>1)*9+(n=0)"), 0);
        DUE.are("n of the last", atBehindRun(x, "n=3"), 3);
        DUE.are("n of the first", atBehindRun(x, "n<1"), 0);
        DUE.are("v 10", atBehindRun(x, "(v=10)*(n=2)"), 2);
        x.change(0, 0, 0);
        DUE.are("v 0", atBehindRun(x, "(v=0)*n"), 3);
        x.change(0, 0, 99);
        DUE.are("v 99", atBehindRun(x, "(v=99)*n"), 3);
    }

    private static void zealHeld() {
        held(withText(1, "h"), 1, new int[][] {
            {-100, -99}, {-99, -99}, {-98, -98}, {98, 98}, {99, 99}, {100, 99}, {MIN, -99}, {MAX, 99}});
        ChairViews run = Due.seated(Due.withChairs(0, 0, 0, 0, 0, 0), -1);
        DUE.are("98, 99, 100", atBehindRun(run, "98+n"), 1);
        DUE.are("99, 100, 101", atBehindRun(run, "99+n"), 0);
        DUE.are("-101, -100, -99", atBehindRun(run, "n-101"), 0);
        DUE.are("-100, -99, -98", atBehindRun(run, "n-100"), 2);
    }

    private static void zealWithout() {
        ChairViews x = new ChairViews();
        DUE.is("h 1, n 0", x.law(1, 1, 0, 77), 10);
        DUE.is("h 1, n 5", x.law(1, 1, 5, 77), 5);
        DUE.is("h 0, n 5", x.law(1, 0, 5, 77), -5);
        DUE.is("9*10-(-9)", x.law(1, 9, -9, 0), 99);
        DUE.is("9*10-(-10)", x.law(1, 9, -10, 0), 99);
        DUE.is("-9*10-10", x.law(1, -9, 10, 0), -99);
        DUE.is("it wraps", x.law(1, 0, MIN, 0), -99);
        Due.textOf(x, 1, "1+");
        DUE.is("behind a FAULT", x.law(1, 1, 5, 77), 5);
        ChairViews run = Due.withChairs(0, 0, 0, 0, 0, 0, 0, 0, 0, 0, 0, 1);
        Due.seated(run, -1, -1, -1);
        run.run();
        DUE.are("the one for his HOBBY, then the least", Due.at(run), 5, 0, 1);
    }

    // ---- promises 11 to 13

    private static void feed() {
        ChairViews x = new ChairViews();
        DUE.is("1 byte", x.feed(0x4141_4141_4141_416BL, 1), 1);
        DUE.is("8 bytes", x.feed(0x3030_2B63_2B31_2B2BL, 8), 9);
        DUE.is("k++1+c+00", x.text(0), -12);
        x.feed(0x3030_2B63_2B31_2B6BL, 8);
        DUE.is("k+1+c+00, the highest byte last", x.text(0), 1);
        DUE.is("what it gives", x.law(0, 5, 7, 0), 13);
        for (int n = 1; n <= 8; n++) {
            ChairViews y = new ChairViews();
            DUE.is("feed(.., " + n + ")", y.feed(-1L, n), n);
            DUE.is("bytes", y.count(6), n);
        }
        x.feed(0xFF31_2B31_2B31_2B31L, 8);
        DUE.is("a last byte of 255", x.text(0), -17);
        x.feed(0x0031_2B31_2B31_2B31L, 8);
        DUE.is("a last byte of 0", x.text(0), -17);
        x.feed(0xFF31_2B31_2B31_2B31L, 7);
        DUE.is("one that doesn't come", x.text(0), 1);
    }

    private static void feedBeyond() {
        DUE.within("feed(.., v)", 1, 8, Due::furnished, (x, v) -> x.feed(49L, v));
        DUE.beyond("feed(.., v), ahead of FULL", Due::full, (x, v) -> x.feed(49L, v), 0, 9, -1, MIN, MAX);
    }

    private static ChairViews withBytes(int n) {
        ChairViews x = new ChairViews();
        for (int i = 0; i < n; i++) {
            x.feed('1', 1);
        }
        return x;
    }

    private static void feedFull() {
        for (int n = 1; n <= 8; n++) {
            int bytes = n;
            DUE.is(n + " up to 50", withBytes(50 - n).feed(0L, n), 50);
            DUE.refuses(n + " up to 51", () -> withBytes(51 - bytes), x -> x.feed(0L, bytes), Due.FULL);
            DUE.refuses(n + " behind 50", Due::full, x -> x.feed(0L, bytes), Due.FULL);
        }
    }

    private static void text() {
        for (int use = 0; use <= 1; use++) {
            ChairViews x = new ChairViews();
            Due.feed(x, "41");
            DUE.is("text(" + use + ")", x.text(use), 1);
            DUE.is("THE TAPE is empty", x.count(6), 0);
            DUE.is("it gives", x.law(use, 0, 0, 0), 41);
            Due.feed(x, "7");
            DUE.is("one more", x.text(use), 1);
            DUE.is("it gives, in place of one ahead", x.law(use, 0, 0, 0), 7);
            DUE.is("50 bytes come again", Due.feed(x, "1".repeat(50)), 50);
        }
        ChairViews both = new ChairViews();
        Due.textOf(both, 0, "k+1");
        Due.textOf(both, 1, "h+2");
        DUE.is("each its own", both.law(0, 5, 0, 0) * 10 + both.law(1, 5, 0, 0), 67);
    }

    private static void textBeyond() {
        DUE.within("text(v)", 0, 1, Due::furnished, ChairViews::text);
        DUE.beyond("text(v)", Due::full, ChairViews::text, -1, 2);
        ChairViews x = new ChairViews();
        Due.feed(x, "41");
        x.text(2);
        x.text(-1);
        DUE.is("THE TAPE stays", x.count(6), 2);
        DUE.is("its bytes stay", x.text(0), 1);
        DUE.is("it gives", x.law(0, 0, 0, 0), 41);
    }

    private static void textFault() {
        ChairViews x = withText(0, "k+1");
        DUE.is("nothing on THE TAPE", x.text(0), -10);
        DUE.is("a FAULT at 0", Due.textOf(x, 0, "h"), -10);
        DUE.is("a FAULT at 1", Due.textOf(x, 0, "kk"), -11);
        DUE.is("THE TAPE is empty then", x.count(6), 0);
        DUE.is("a FAULT at 49", Due.textOf(x, 0, "9+".repeat(24) + "9k"), -59);
        DUE.is("a FAULT at 50", Due.textOf(x, 0, "9+".repeat(25)), -60);
        DUE.is("THE TAPE is empty then", x.count(6), 0);
        DUE.are("no ERROR", Due.told(x), 0, 0, 0, 0, 0);
        DUE.is("the one ahead stays", x.law(0, 5, 0, 0), 6);
        DUE.is("the other USE has none still", x.law(1, 1, 4, 0), 6);
    }

    private static void law() {
        ChairViews x = withText(0, "k*9+c*3+s");
        Due.textOf(x, 1, "h*9+n*3+v");
        DUE.is("k, c, s", x.law(0, 1, 2, 3), 18);
        DUE.is("h, n, v", x.law(1, 1, 2, 3), 18);
        DUE.is("k, c, s", x.law(0, 4, 0, -1), 35);
        DUE.is("h, n, v", x.law(1, -4, 0, 1), -35);
        ChairViews alone = withText(0, "s=0-1&k=9999&c<0");
        DUE.is("numbers that no CHAIR has", alone.law(0, 9999, -5, -1), 1);
    }

    private static void lawBeyond() {
        DUE.within("law(v, 1, 2, 3)", 0, 1, Due::furnished, (x, v) -> x.law(v, 1, 2, 3));
        DUE.within("law(v, 1, 2, 3) without TEXTS", 0, 1, ChairViews::new, (x, v) -> x.law(v, 1, 2, 3));
        DUE.is("any a, b, c", new ChairViews().law(0, MIN, MAX, BEYOND), 1);
    }

    public static void main(String[] args) {
        sentences().runAll(DUE);
    }
}
