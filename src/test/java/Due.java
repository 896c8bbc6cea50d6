/** Counts the answers that are not as due, and ends the test with exit code 1 if there was one. */
final class Due {
    static final int LOW = -1000000000;
    static final int BEYOND = LOW - 1;
    static final int NONE = LOW - 2;
    static final int STATE = LOW - 3;
    static final int FULL = LOW - 4;
    static final int KIND = LOW - 5;

    private int asked;
    private int wrong;

    void is(String call, long got, long want) {
        asked++;
        if (got != want) {
            wrong++;
            System.out.println(call + " answered " + got + ", due is " + want);
        }
    }

    /** That a call that answered an ERROR changed nothing but what told() tells. */
    void unchanged(String call, String before, String now) {
        asked++;
        if (!before.equals(now)) {
            wrong++;
            System.out.println(call + " changed " + before + " to " + now);
        }
    }

    void end() {
        System.out.println((asked - wrong) + " answers as due, " + wrong + " not");
        if (wrong != 0 || asked == 0) {
            System.exit(1);
        }
    }

    /** Feeds a text whose bytes are the characters given. */
    static void feed(ChairViews x, String text) {
        for (int i = 0; i < text.length(); i += 8) {
            int n = Math.min(8, text.length() - i);
            long word = 0;
            for (int j = n - 1; j >= 0; j--) {
                word = word << 8 | text.charAt(i + j) & 255;
            }
            x.feed(word, n);
        }
    }

    static int textOf(ChairViews x, int use, String text) {
        feed(x, text);
        return x.text(use);
    }

    /** All that can be seen without changing it, but for what told() tells. */
    static String seen(ChairViews x) {
        StringBuilder all = new StringBuilder();
        for (int what = 0; what <= 9; what++) {
            all.append(x.count(what)).append(' ');
        }
        for (int chair = 0; chair < x.count(0); chair++) {
            for (int what = 0; what <= 5; what++) {
                all.append(x.ofChair(chair, what)).append(' ');
            }
        }
        for (int member = 0; member < x.count(1); member++) {
            for (int what = 0; what <= 2; what++) {
                all.append(x.ofMember(member, what)).append(' ');
            }
        }
        for (int i = 0; i < x.count(8); i++) {
            all.append(x.trace(i)).append(' ');
        }
        for (int i = 0; i < 30; i++) {
            all.append(x.law(i % 2, i, i / 3, 7 * i)).append(' ');
        }
        return all.toString();
    }

    private Due() {
    }

    static Due start() {
        return new Due();
    }
}
