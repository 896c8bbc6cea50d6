/** Promises 11 to 13: THE TAPE, texts, what they give. */
public final class TextsTest {
    private static final Due DUE = new Due();
    private static final int BEYOND = Due.BEYOND;

    private static void feed() {
        ChairViews x = new ChairViews();
        DUE.is("11: the lowest byte first", x.feed(0x2B31_2B6BL, 3), 3);
        DUE.is("11: count(6)", x.count(6), 3);
        DUE.is("11: and more", x.feed(0xFFFFFF36L, 1), 4);
        DUE.is("11: k+16", x.text(0), 1);
        DUE.is("11: k+16 of 20", x.law(0, 20, 0, 0), 36);
        DUE.is("11: 8 bytes, the last the highest", x.feed(0x3131_3131_3131_3131L, 8), 8);
        DUE.is("11: fault at the fifth digit", x.text(0), -14);
    }

    private static void feedTooMuch() {
        ChairViews x = new ChairViews();
        for (int i = 1; i <= 6; i++) {
            DUE.is("11: 8 more", x.feed(-1L, 8), 8 * i);
        }
        DUE.is("11: 51", x.feed(0L, 3), Due.FULL);
        DUE.is("11: none came", x.count(6), 48);
        DUE.is("11: 50", x.feed(0L, 2), 50);
        DUE.is("11: 51", x.feed(0L, 1), Due.FULL);
        DUE.is("11: BEYOND ahead of FULL", x.feed(0L, 9), BEYOND);
        DUE.refuses("11: feed(0, 0)", Due::furnished, y -> y.feed(0L, 0), BEYOND);
        DUE.refuses("11: feed(0, 9)", Due::furnished, y -> y.feed(0L, 9), BEYOND);
        DUE.refuses("11: feed(0, -1)", Due::furnished, y -> y.feed(0L, -1), BEYOND);
    }

    private static void text() {
        ChairViews x = new ChairViews();
        DUE.is("12: k", Due.textOf(x, 0, "k"), 1);
        DUE.is("12: THE TAPE is empty", x.count(6), 0);
        DUE.is("12: h", Due.textOf(x, 1, "h"), 1);
        DUE.is("12: in place of one ahead", Due.textOf(x, 0, "k+1"), 1);
        DUE.is("12: what it gives", x.law(0, 4, 0, 0), 5);
        DUE.is("12: the other USE's", x.law(1, 4, 0, 0), 4);
        DUE.is("12: a fault", Due.textOf(x, 0, "k+c)"), -13);
        DUE.is("12: THE TAPE is empty", x.count(6), 0);
        DUE.is("12: the one ahead stays", x.law(0, 4, 0, 0), 5);
        DUE.are("12: a FAULT is no ERROR", Due.told(x), 0, 0, 0, 0, 0);
        DUE.refuses("12: text(2)", Due::furnished, y -> y.text(2), BEYOND);
        DUE.refuses("12: text(-1)", Due::furnished, y -> y.text(-1), BEYOND);
        ChairViews full = new ChairViews();
        String longest = "(((!(k+c+s+1234*5678/90%7<k&c|s&4|k-1))))*990+010";
        DUE.is("12: a text of 49", longest.length(), 49);
        DUE.is("12: it stands", Due.textOf(full, 0, longest), 1);
        DUE.is("12: one of 50", Due.textOf(full, 0, longest + "0"), 1);
        DUE.is("12: what it gives", full.law(0, 0, 0, 0), 99);
    }

    private static void fault(int use, String text, int place) {
        DUE.is("12: fault of " + text, Due.textOf(new ChairViews(), use, text), -10 - place);
    }

    private static void right(int use, String text) {
        DUE.is("12: " + text, Due.textOf(new ChairViews(), use, text), 1);
    }

    private static void faults() {
        fault(0, "", 0);
        fault(0, "h", 0);
        fault(1, "k", 0);
        fault(1, "h+c", 2);
        fault(0, " k", 0);
        fault(0, "k ", 1);
        fault(0, "k+", 2);
        fault(0, "+k", 0);
        fault(0, "-1", 0);
        fault(0, "k++c", 2);
        fault(0, "kc", 1);
        fault(0, "k1", 1);
        fault(0, "1k", 1);
        fault(0, "12345", 4);
        fault(0, "k+00000", 6);
        fault(0, "1<2<3", 3);
        fault(0, "1<2=3", 3);
        fault(0, "1<", 2);
        fault(0, "k|", 2);
        fault(0, "k||c", 2);
        fault(0, "(k", 2);
        fault(0, "(k+", 3);
        fault(0, "()", 1);
        fault(0, "(k))", 3);
        fault(0, ")", 0);
        fault(0, "(1<2<3)", 4);
        fault(0, "(k)c", 3);
        fault(0, "(k)(", 3);
        fault(0, "k!", 1);
        fault(0, "!", 1);
        fault(0, "!)", 1);
        fault(0, "!+1", 1);
        fault(0, "\u0000", 0);
        fault(0, "k\u00ff", 1);
        fault(0, "K", 0);
        fault(0, "k<=c", 2);
    }

    private static void howDeep() {
        right(0, "!!!!!k");
        fault(0, "!!!!!!k", 5);
        right(0, "(((((k)))))");
        fault(0, "((((((k))))))", 5);
        right(0, "!(!(!k))");
        fault(0, "!(!(!(k)))", 5);
        fault(0, "(((((!k)))))", 5);
        right(0, "!!!!!k+!!!!!c*(((((s)))))");
        fault(0, "((((!k+!(c)))))", 8);
        right(0, "(((!k+!(c))))");
        right(0, "(((!k)|!(c)))");
        fault(0, "((((!(c)))", 5);
        fault(0, "((((!k", 6);
        fault(0, "((((!k)))|((!(k", 15);
    }

    private static void rightOnes() {
        right(0, "0000");
        right(0, "9999");
        right(0, "1<2&2<3|3=3");
        right(0, "(1<2)<3");
        right(0, "1<(2<3)");
        right(0, "k+1<c*2-s");
        right(1, "h*10-n+v%7");
    }

    private static void gives(String text, int k, int c, int s, int due) {
        ChairViews x = new ChairViews();
        DUE.is("13: " + text, Due.textOf(x, 0, text), 1);
        DUE.is("13: " + text + " of " + k + ", " + c + ", " + s, x.law(0, k, c, s), due);
    }

    private static void givesZeal(String text, int h, int n, int v, int due) {
        ChairViews x = new ChairViews();
        DUE.is("13: " + text, Due.textOf(x, 1, text), 1);
        DUE.is("13: " + text + " of " + h + ", " + n + ", " + v, x.law(1, h, n, v), due);
    }

    private static void law() {
        ChairViews x = new ChairViews();
        DUE.is("13: law(0) without a text", x.law(0, -7, 5, 3), 1);
        DUE.is("13: law(1) without a text", x.law(1, 2, 3, 50), 17);
        DUE.is("13: held", x.law(1, 100, 3, 50), 99);
        DUE.is("13: held", x.law(1, -100000000, 1, 50), -99);
        DUE.refuses("13: law(-1, ..)", Due::furnished, y -> y.law(-1, 0, 0, 0), BEYOND);
        DUE.refuses("13: law(2, ..)", Due::furnished, y -> y.law(2, 0, 0, 0), BEYOND);
        gives("k*10+c*3+s", 1, 2, 3, 19);
        givesZeal("h*10+n*3+v", 1, 2, 3, 19);
        gives("k", 99, 0, 0, 99);
        gives("k", 100, 0, 0, 99);
        gives("k", -1, 0, 0, 0);
        givesZeal("h", 100, 0, 0, 99);
        givesZeal("h", -99, 0, 0, -99);
        givesZeal("h", -100, 0, 0, -99);
    }

    private static void signs() {
        gives("20-5-3", 0, 0, 0, 12);
        gives("2+3*4", 0, 0, 0, 14);
        gives("(2+3)*4", 0, 0, 0, 20);
        gives("90/4/2", 0, 0, 0, 11);
        gives("90/4*2", 0, 0, 0, 44);
        gives("17%10%4", 0, 0, 0, 3);
        gives("7/0+5", 0, 0, 0, 5);
        gives("7%0+5", 0, 0, 0, 5);
        givesZeal("h/n", -7, 2, 0, -3);
        givesZeal("h%n", -7, 2, 0, -1);
        givesZeal("h%n", 7, -2, 0, 1);
        givesZeal("h/n", Integer.MIN_VALUE, -1, 0, -99);
        givesZeal("h%n", Integer.MIN_VALUE, -1, 0, 0);
        givesZeal("h+n", Integer.MAX_VALUE, 1, 0, -99);
        givesZeal("h-n", Integer.MIN_VALUE, 1, 0, 99);
        givesZeal("h*n", 65536, 65536, 0, 0);
        gives("k<c", 1, 2, 0, 1);
        gives("k<c", 2, 2, 0, 0);
        gives("k=c", 2, 2, 0, 1);
        gives("k=c", 1, 2, 0, 0);
        gives("k>c", 2, 1, 0, 1);
        gives("k>c", 2, 2, 0, 0);
        gives("k>c", Integer.MIN_VALUE, 1, 0, 0);
        gives("k&c", 4, 2, 0, 1);
        gives("k&c", 4, 0, 0, 0);
        gives("k&c", 0, 4, 0, 0);
        gives("k|c", 0, 4, 0, 1);
        gives("k|c", 4, 0, 0, 1);
        gives("k|c", -1, 1, 0, 1);
        gives("k|c", 0, 0, 0, 0);
        gives("!k", 5, 0, 0, 0);
        gives("!k", 0, 0, 0, 1);
        gives("!!k", 5, 0, 0, 1);
        gives("!k+1", 5, 0, 0, 1);
        gives("!(k+1)", 5, 0, 0, 0);
        gives("!k*7", 0, 0, 0, 7);
        gives("1|1&0", 0, 0, 0, 1);
        gives("(1|1)&0", 0, 0, 0, 0);
        gives("0&1|1", 0, 0, 0, 1);
        gives("3<2+4", 0, 0, 0, 1);
        gives("2&3<4", 0, 0, 0, 1);
        gives("5", 0, 0, 0, 5);
        gives("(5)", 0, 0, 0, 5);
        gives("0075", 0, 0, 0, 75);
        gives("9999-9901", 0, 0, 0, 98);
        gives("s+c*100/k", 7, 3, 2, 44);
    }

    public static void main(String[] args) {
        feed();
        feedTooMuch();
        text();
        faults();
        howDeep();
        rightOnes();
        law();
        signs();
        DUE.end();
    }
}
