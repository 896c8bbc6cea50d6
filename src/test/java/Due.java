import java.util.function.Supplier;
import java.util.function.ToIntBiFunction;
import java.util.function.ToIntFunction;

/** Counts the answers that are not as due, and ends the test with exit code 1 if there was one. */
final class Due {
    static final int LOW = -1000000000;
    static final int BEYOND = LOW - 1;
    static final int NONE = LOW - 2;
    static final int STATE = LOW - 3;
    static final int FULL = LOW - 4;
    static final int KIND = LOW - 5;

    private String sentence = "";
    private int asked;
    private int wrong;

    /** What comes from here on holds a sentence of the document, in whose words a wrong answer is told. */
    void under(String words) {
        sentence = words + ": ";
    }

    int asked() {
        return asked;
    }

    void is(String call, long got, long want) {
        asked++;
        if (got != want) {
            wrong++;
            System.out.println(sentence + call + " answered " + got + ", due is " + want);
        }
    }

    void same(String call, String got, String want) {
        asked++;
        if (!got.equals(want)) {
            wrong++;
            System.out.println(sentence + call + "\n  " + got + "\n  due is\n  " + want);
        }
    }

    void are(String calls, int[] got, int... want) {
        is(calls + ": how many", got.length, want.length);
        for (int i = 0; i < Math.min(got.length, want.length); i++) {
            is(calls + ": number " + i, got[i], want[i]);
        }
    }

    /** That a call answers an ERROR, which told() tells of, and changes nothing else. */
    void refuses(String call, Supplier<ChairViews> made, ToIntFunction<ChairViews> act, int error) {
        ChairViews x = made.get();
        int[] told = told(x);
        is(call, act.applyAsInt(x), error);
        told[LOW - error - 1]++;
        are(call + ", what told() tells", told(x), told);
        changesNothing(call, made, act);
    }

    /** That a call answers what is due, which is no ERROR whatever number it is. */
    void answers(String call, Supplier<ChairViews> made, ToIntFunction<ChairViews> act, int due) {
        ChairViews x = made.get();
        int[] told = told(x);
        is(call, act.applyAsInt(x), due);
        are(call + ", what told() tells", told(x), told);
    }

    /** That a call answers what is due, which is no ERROR, and changes nothing. */
    void onlyThinks(String call, Supplier<ChairViews> made, ToIntFunction<ChairViews> act, int due) {
        answers(call, made, act, due);
        changesNothing(call, made, act);
    }

    /** By twins: one is asked, one isn't, and neither can be told from the other behind that. */
    private void changesNothing(String call, Supplier<ChairViews> made, ToIntFunction<ChairViews> act) {
        for (Probe probe : Probe.values()) {
            ChairViews asked = made.get();
            act.applyAsInt(asked);
            same(call + " changed " + probe, probe.of(asked), probe.of(made.get()));
        }
    }

    /**
     * That a number of a call may be what is from least to most, and that what is around is
     * BEYOND. What is allowed may still be refused by another ERROR.
     */
    void within(String call, int least, int most, Supplier<ChairViews> made,
            ToIntBiFunction<ChairViews, Integer> act) {
        for (int v : new int[] {least, most}) {
            is(call + " of " + v + " is BEYOND", act.applyAsInt(made.get(), v) == BEYOND ? 1 : 0, 0);
        }
        beyond(call, made, act, least - 1, most + 1, Integer.MIN_VALUE, Integer.MAX_VALUE);
    }

    void beyond(String call, Supplier<ChairViews> made, ToIntBiFunction<ChairViews, Integer> act, int... numbers) {
        for (int v : numbers) {
            refuses(call + " of " + v, made, x -> act.applyAsInt(x, v), BEYOND);
        }
    }

    /** That a number of a call is that of a CHAIR: of none, of 4, of 6. */
    void chairs(String call, ToIntBiFunction<ChairViews, Integer> act) {
        beyond(call + " without CHAIRS", ChairViews::new, act, -1, 0);
        within(call + " with 4 CHAIRS", 0, 3, Due::furnished, act);
        within(call + " with 6 CHAIRS", 0, 5, Due::full, act);
    }

    /** That a number of a call is that of a MEMBER: of none, of 3, of 6. */
    void members(String call, ToIntBiFunction<ChairViews, Integer> act) {
        beyond(call + " without MEMBERS", ChairViews::new, act, -1, 0);
        within(call + " with 3 MEMBERS", 0, 2, Due::furnished, act);
        within(call + " with 6 MEMBERS", 0, 5, Due::full, act);
    }

    void bills(String call, ToIntBiFunction<ChairViews, Integer> act) {
        within(call, 0, 7, Due::furnished, act);
    }

    void sheets(String call, ToIntBiFunction<ChairViews, Integer> act) {
        within(call, 0, 3, Due::furnished, act);
        within(call, 0, 3, Due::full, act);
    }

    void end() {
        System.out.println((asked - wrong) + " answers as due, " + wrong + " not");
        if (wrong != 0 || asked == 0) {
            System.exit(1);
        }
    }

    /** Feeds a text whose bytes are the characters given: how many are on THE TAPE. */
    static int feed(ChairViews x, String text) {
        int length = x.count(6);
        for (int i = 0; i < text.length(); i += 8) {
            int n = Math.min(8, text.length() - i);
            long word = 0;
            for (int j = n - 1; j >= 0; j--) {
                word = word << 8 | text.charAt(i + j) & 255;
            }
            length = x.feed(word, n);
        }
        return length;
    }

    static int textOf(ChairViews x, int use, String text) {
        feed(x, text);
        return x.text(use);
    }

    static int[] told(ChairViews x) {
        return new int[] {x.told(1), x.told(2), x.told(3), x.told(4), x.told(5)};
    }

    static int[] at(ChairViews x) {
        int[] at = new int[x.count(1)];
        for (int i = 0; i < at.length; i++) {
            at[i] = x.ofMember(i, 2);
        }
        return at;
    }

    static int[] cushions(ChairViews x) {
        int[] all = new int[x.count(0)];
        for (int i = 0; i < all.length; i++) {
            all[i] = x.ofChair(i, 3);
        }
        return all;
    }

    static int[] trace(ChairViews x) {
        int[] all = new int[x.count(8)];
        for (int i = 0; i < all.length; i++) {
            all[i] = x.trace(i);
        }
        return all;
    }

    /** Numbers of a sheet that stands already. */
    static void putAll(ChairViews x, int sheet, int... numbers) {
        for (int i = 0; i < numbers.length; i++) {
            x.put(sheet, i, numbers[i]);
        }
    }

    /** All that can be seen without changing it, but for SHEETS and what told() tells. */
    static String seen(ChairViews x) {
        StringBuilder all = new StringBuilder();
        for (int what = 0; what <= 9; what++) {
            all.append(x.count(what)).append(' ');
        }
        for (int chair = 0; chair < x.count(0); chair++) {
            for (int what = 0; what <= 5; what++) {
                all.append(x.ofChair(chair, what)).append(' ');
            }
        }
        for (int member = 0; member < x.count(1); member++) {
            for (int what = 0; what <= 2; what++) {
                all.append(x.ofMember(member, what)).append(' ');
            }
        }
        for (int i : trace(x)) {
            all.append(i).append(' ');
        }
        for (int i = 0; i < 12; i++) {
            all.append(x.law(i % 2, i, i / 3, 7 * i)).append(' ');
        }
        return all.toString();
    }

    /**
     * A house in which there is something of everything but an IMAGE: 4 of at most 6 CHAIRS, 3
     * MEMBERS of whom one stands, a TEXT, bytes on THE TAPE, LAWS, numbers that wait, SHEET 0 of
     * 8 bits, SHEET 1 of 16, a TRACE.
     */
    static ChairViews furnished() {
        ChairViews x = withChairs(4, 1, 13, 255, 56, 6, 62, 15);
        x.member(0);
        x.member(1);
        x.member(7);
        x.change(1, 0, 30);
        textOf(x, 0, "k+1");
        x.sittings(3);
        x.sit(2, -1);
        x.stuff(0, 1, 6);
        x.voice(3, 3, 1);
        x.tell(x.then(1, -1));
        x.tell(x.then(2, -1));
        x.tell(9);
        x.sheet(0, 8, 3);
        putAll(x, 0, 5, 99, 0);
        x.sheet(1, 16, 9);
        putAll(x, 1, 1, 2, 3, 4, 5, 6, 7, 8, 9);
        feed(x, "h+");
        return x;
    }

    /**
     * A house with the most of everything but SITTING: 6 CHAIRS, 6 MEMBERS who all sit, 50 bytes,
     * 20 numbers that wait, 4 SHEETS of 40 numbers, and an IMAGE of a time when it had less.
     */
    static ChairViews full() {
        ChairViews x = withChairs(4, 1, 13, 255, 56, 6, 62, 7, 29, 128);
        seated(x, 3, -1, 1, 4, 0);
        textOf(x, 1, "h*9+n");
        x.image();
        x.chair(30, 112);
        x.sit(x.member(3), 5);
        x.sit(1, 2);
        x.stuff(0, 1, 6);
        textOf(x, 0, "k+1");
        x.voice(3, 3, 1);
        for (int sheet = 0; sheet < 4; sheet++) {
            x.sheet(sheet, 8 << sheet % 3, 40);
            putAll(x, sheet, 8, 3 + sheet);
            x.put(sheet, 39, 7);
        }
        for (int i = 1; i <= 19; i++) {
            x.tell(x.then(i, -1));
        }
        x.tell(999);
        feed(x, "k+k+k+k+k+k+k+k+k+k+k+k+k+k+k+k+k+k+k+k+k+k+k+k+11");
        return x;
    }

    /** All that an IMAGE keeps becomes another. */
    static void changeAll(ChairViews x) {
        x.chair(0, 0);
        x.member(5);
        x.become(0, 33);
        x.stuff(1, 0, 4);
        x.stuff(0, 1, 255);
        x.change(0, 0, 98);
        x.change(0, 1, 6);
        x.sittings(5);
        x.loose(1);
        x.sit(0, -1);
        x.text(0);
        textOf(x, 0, "9");
        textOf(x, 1, "v-7*n");
        feed(x, "((((");
        x.check();
        x.tell(3);
    }

    /** A house for BILL 0 alone that has had so many SITTINGS. */
    static ChairViews late(int sittings) {
        ChairViews x = seated(withChairs(0, 1, 0, 6), 0);
        for (int left = sittings; left > 0; left -= 60) {
            x.sittings(Math.min(60, left));
        }
        return x;
    }

    /** A new house with CHAIRS of these km and VIEWS by turns, and nobody in it. */
    static ChairViews withChairs(int... kmViews) {
        ChairViews x = new ChairViews();
        for (int i = 0; i + 1 < kmViews.length; i += 2) {
            x.chair(kmViews[i], kmViews[i + 1]);
        }
        return x;
    }

    /** MEMBERS come in, each AT a CHAIR (or -1), all with HOBBY 0. */
    static ChairViews seated(ChairViews x, int... chairs) {
        for (int chair : chairs) {
            x.sit(x.member(0), chair);
        }
        return x;
    }
}
