import java.util.function.Supplier;
import java.util.function.ToIntFunction;

/** Counts the answers that are not as due, and ends the test with exit code 1 if there was one. */
final class Due {
    static final int LOW = -1000000000;
    static final int BEYOND = LOW - 1;
    static final int NONE = LOW - 2;
    static final int STATE = LOW - 3;
    static final int FULL = LOW - 4;
    static final int KIND = LOW - 5;

    private int asked;
    private int wrong;

    void is(String call, long got, long want) {
        asked++;
        if (got != want) {
            wrong++;
            System.out.println(call + " answered " + got + ", due is " + want);
        }
    }

    void are(String calls, int[] got, int... want) {
        is(calls + ": how many", got.length, want.length);
        for (int i = 0; i < Math.min(got.length, want.length); i++) {
            is(calls + ": number " + i, got[i], want[i]);
        }
    }

    /** That a call answers an ERROR, which told() tells of, and changes nothing else. */
    void refuses(String call, Supplier<ChairViews> made, ToIntFunction<ChairViews> act, int error) {
        ChairViews x = made.get();
        String before = seen(x);
        int[] told = told(x);
        is(call, act.applyAsInt(x), error);
        told[LOW - error - 1]++;
        are(call + ", what told() tells", told(x), told);
        asked++;
        if (!before.equals(seen(x))) {
            wrong++;
            System.out.println(call + " changed\n  " + before + " to\n  " + seen(x));
        }
    }

    void end() {
        System.out.println((asked - wrong) + " answers as due, " + wrong + " not");
        if (wrong != 0 || asked == 0) {
            System.exit(1);
        }
    }

    /** Feeds a text whose bytes are the characters given: how many are on THE TAPE. */
    static int feed(ChairViews x, String text) {
        int length = x.count(6);
        for (int i = 0; i < text.length(); i += 8) {
            int n = Math.min(8, text.length() - i);
            long word = 0;
            for (int j = n - 1; j >= 0; j--) {
                word = word << 8 | text.charAt(i + j) & 255;
            }
            length = x.feed(word, n);
        }
        return length;
    }

    static int textOf(ChairViews x, int use, String text) {
        feed(x, text);
        return x.text(use);
    }

    static int[] told(ChairViews x) {
        return new int[] {x.told(1), x.told(2), x.told(3), x.told(4), x.told(5)};
    }

    static int[] at(ChairViews x) {
        int[] at = new int[x.count(1)];
        for (int i = 0; i < at.length; i++) {
            at[i] = x.ofMember(i, 2);
        }
        return at;
    }

    static int[] cushions(ChairViews x) {
        int[] all = new int[x.count(0)];
        for (int i = 0; i < all.length; i++) {
            all[i] = x.ofChair(i, 3);
        }
        return all;
    }

    static int[] trace(ChairViews x) {
        int[] all = new int[x.count(8)];
        for (int i = 0; i < all.length; i++) {
            all[i] = x.trace(i);
        }
        return all;
    }

    /** Numbers of a sheet that stands already. */
    static void putAll(ChairViews x, int sheet, int... numbers) {
        for (int i = 0; i < numbers.length; i++) {
            x.put(sheet, i, numbers[i]);
        }
    }

    /** All that can be seen without changing it, but for SHEETS and what told() tells. */
    static String seen(ChairViews x) {
        StringBuilder all = new StringBuilder();
        for (int what = 0; what <= 9; what++) {
            all.append(x.count(what)).append(' ');
        }
        for (int chair = 0; chair < x.count(0); chair++) {
            for (int what = 0; what <= 5; what++) {
                all.append(x.ofChair(chair, what)).append(' ');
            }
        }
        for (int member = 0; member < x.count(1); member++) {
            for (int what = 0; what <= 2; what++) {
                all.append(x.ofMember(member, what)).append(' ');
            }
        }
        for (int i : trace(x)) {
            all.append(i).append(' ');
        }
        for (int i = 0; i < 12; i++) {
            all.append(x.law(i % 2, i, i / 3, 7 * i)).append(' ');
        }
        return all.toString();
    }

    /**
     * A house in which there is something of everything: 4 of at most 6 CHAIRS, 3 MEMBERS of
     * whom one stands, a TEXT, bytes on THE TAPE, LAWS, numbers that wait, SHEET 0 of 8 bits,
     * SHEET 1 of 16, a TRACE.
     */
    static ChairViews furnished() {
        ChairViews x = new ChairViews();
        x.chair(4, 1);
        x.chair(13, 255);
        x.chair(56, 6);
        x.chair(62, 15);
        x.member(0);
        x.member(1);
        x.member(7);
        x.change(1, 0, 30);
        textOf(x, 0, "k+1");
        x.sittings(3);
        x.sit(2, -1);
        x.stuff(0, 1, 6);
        x.voice(3, 3, 1);
        x.tell(7);
        x.tell(9);
        x.sheet(0, 8, 3);
        x.sheet(1, 16, 9);
        feed(x, "h+");
        return x;
    }

    /** A new house with CHAIRS of these km and VIEWS by turns, and nobody in it. */
    static ChairViews withChairs(int... kmViews) {
        ChairViews x = new ChairViews();
        for (int i = 0; i + 1 < kmViews.length; i += 2) {
            x.chair(kmViews[i], kmViews[i + 1]);
        }
        return x;
    }

    /** MEMBERS come in, each AT a CHAIR (or -1), all with HOBBY 0. */
    static ChairViews seated(ChairViews x, int... chairs) {
        for (int chair : chairs) {
            x.sit(x.member(0), chair);
        }
        return x;
    }
}
