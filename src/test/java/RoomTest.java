import com.sun.management.ThreadMXBean;
import java.lang.management.ManagementFactory;

/** What an object takes: all calls of a run live in one room, so no call may make anything new. */
public final class RoomTest {
    private static final String TEXT = "P3H0H1H2H3C2300C0610C3422C4131C2512C1403";
    /** Some 43 objects and arrays with 450 fields and elements, by the machine's own measure. */
    private static final int MOST_BYTES = 8000;
    private static final ThreadMXBean BEAN = (ThreadMXBean) ManagementFactory.getThreadMXBean();

    public static void main(String[] args) {
        if (!BEAN.isThreadAllocatedMemorySupported() || !BEAN.isThreadAllocatedMemoryEnabled()) {
            System.out.println("RoomTest: this machine does not count what is made");
            return;
        }
        // The first round is for what the machine itself makes when a call is met first.
        for (int round = 0; round < 2; round++) {
            long atFirst = made();
            PearlMother mother = new PearlMother();
            long constructed = made();
            useUp(mother);
            long used = made();
            if (round > 0) {
                Due.holds("an object takes at most " + MOST_BYTES + " bytes, not " + (constructed - atFirst),
                        constructed - atFirst <= MOST_BYTES);
                Due.due("bytes that calls make", used - constructed, 0);
            }
        }
        Due.end("RoomTest");
    }

    private static long made() {
        return BEAN.getThreadAllocatedBytes(Thread.currentThread().getId());
    }

    private static void useUp(PearlMother mother) {
        for (int place = 0; place < TEXT.length(); place++) {
            mother.write(TEXT.charAt(place));
        }
        mother.fault();
        mother.coast();
        for (int what = -1; what < 10; what++) {
            mother.about(what);
            mother.holder(0, what);
            mother.piece(0, what);
            mother.shows(0, 1, what);
            mother.again(what);
            mother.tilt(what, true);
            mother.give(what, 3);
            mother.hour();
            mother.keep(what);
            mother.turn(what, 5);
            ask(mother, what);
        }
        mother.undo();
        mother.unturn();
        mother.wipe();
    }

    private static void ask(PearlMother mother, int one) {
        mother.tilts(one, 0);
        mother.finds(1, one);
        mother.all(one);
        mother.when(2, one);
        mother.mothers();
        mother.giving(true);
        mother.judge(4, 110210300422L);
        mother.share(one, false);
        mother.may(1);
        mother.next();
        mother.rests(one, 0, 1, 1);
        mother.glints(0, one, 6, 5, false);
        mother.seed(one);
        mother.years(30);
    }
}
