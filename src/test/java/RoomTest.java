import com.sun.management.ThreadMXBean;
import java.lang.management.ManagementFactory;
import java.util.function.ToIntFunction;

/** All calls of a run live in one room: an object is small, and calls make next to nothing. */
public final class RoomTest {
    private static final int CALLS = 512;
    private static final long MOST_BYTES_OF_AN_OBJECT = 16_000;
    private static final long MOST_BYTES_OF_CALLS = 32_000;
    private static final ThreadMXBean ROOM = (ThreadMXBean) ManagementFactory.getThreadMXBean();

    public static void main(String[] args) {
        new AlternateSigns();
        long before = used();
        AlternateSigns x = new AlternateSigns();
        holds("an object", used() - before, MOST_BYTES_OF_AN_OBJECT);
        Due.same("it is kept alive", x.count(0), 3);
        calls("orbit", AlternateSigns::orbit);
        calls("gyrate", y -> y.gyrate(100));
        calls("partner", y -> y.partner(11));
        calls("line", y -> y.line(11));
        calls("rings", y -> y.count(11));
        calls("rank", AlternateSigns::rank);
        calls("take", y -> y.take(6, 7435));
        calls("turn", y -> y.turn(1));
        calls("both", y -> y.both(1));
        calls("ways", y -> y.ways(5, 41));
        calls("alike", y -> y.take(5, 428) + y.alike());
        calls("fault", y -> y.write('0') + y.fault() + y.lay());
        beyondTheLastCall();
        Due.end();
    }

    private static long used() {
        return ROOM.getCurrentThreadAllocatedBytes();
    }

    private static void holds(String what, long bytes, long most) {
        Due.holds(what + " takes " + bytes + " bytes, " + most + " at most", bytes <= most);
    }

    private static void calls(String what, ToIntFunction<AlternateSigns> call) {
        AlternateSigns x = new AlternateSigns();
        x.take(6, 248);
        x.keep();
        call.applyAsInt(x);
        long before = used();
        for (int time = 0; time < CALLS; time++) {
            call.applyAsInt(x);
        }
        holds(what, used() - before, MOST_BYTES_OF_CALLS);
    }

    /** Answers are free there, but no call may throw or fail to end. */
    private static void beyondTheLastCall() {
        AlternateSigns x = new AlternateSigns();
        for (int time = 0; time < 20 * CALLS; time++) {
            x.write('+');
            x.take(1 + time % 6, time % 7);
            x.gyrate(1);
            x.turn(1 + time % 6);
        }
        Due.same("undo", x.undo(), 5);
    }
}
