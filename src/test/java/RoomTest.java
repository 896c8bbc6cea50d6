import com.sun.management.ThreadMXBean;
import java.lang.management.ManagementFactory;

/** All calls of a run live in one room: an object is small, and its calls make nothing. */
public final class RoomTest {
    private static final Due DUE = new Due();
    private static final int MOST_BYTES_OF_AN_OBJECT = 16000;

    private static final ThreadMXBean BEAN = (ThreadMXBean) ManagementFactory.getThreadMXBean();
    private static final long OWN = Thread.currentThread().getId();

    private static long made() {
        return BEAN.getThreadAllocatedBytes(OWN);
    }

    /** Every call, with a text as long as THE TAPE, and with every ERROR now and then. */
    private static int everyCall(ChairViews x, int round) {
        int sum = x.chair(round % 75, 9 * round % 260) + x.member(round % 9);
        int chair = round % 7;
        int bill = round % 9;
        sum += x.ofChair(chair, 5) + x.stuff(chair, 1, 5) + x.become(chair, round % 70) + x.as(chair, round % 7);
        sum += x.ofMember(chair, 2) + x.change(chair, 0, round % 101) + x.sit(chair, round % 5);
        for (int i = 0; i < 7; i++) {
            sum += x.feed(0x2B6B2B6B2B6B2B6BL, 8);
        }
        sum += x.feed('k', 1) + x.text(round % 2) + x.law(round % 2, 1, 2, 3);
        sum += x.vote(bill, 2) + x.says(chair, bill) + x.run() + x.sittings(2) + x.loose(2);
        sum += x.then(9, -1) + x.when(bill) + x.turning(bill) + x.moves(bill) + x.power(chair);
        sum += x.sheet(round % 4, 8, bill) + x.put(round % 4, 0, 1) + x.move(0, 0, 1, 0, 1);
        sum += x.fits(round % 4, 0) + x.parts(1) + x.faster(chair, 1) + x.seatless();
        sum += x.seed(round) + x.voice(chair, 3, 1) + x.trace(2) + x.speeds(0) + x.judge(1);
        sum += x.image() + x.restore() + x.tell(3) + x.check() + x.count(5) + x.told(1);
        return sum;
    }

    public static void main(String[] args) {
        ChairViews warm = new ChairViews();
        int sum = everyCall(warm, 0) + (int) made();
        long before = made();
        ChairViews x = new ChairViews();
        long ofObject = made() - before;
        before = made();
        for (int round = 1; round <= 10; round++) {
            sum += everyCall(x, round);
        }
        long ofCalls = made() - before;
        System.out.println("bytes of an object " + ofObject + ", of its calls " + ofCalls + " (" + sum % 2 + ")");
        DUE.is("bytes of an object", Math.max(ofObject, MOST_BYTES_OF_AN_OBJECT), MOST_BYTES_OF_AN_OBJECT);
        DUE.is("bytes of 500 calls", ofCalls, 0);
        DUE.end();
    }
}
