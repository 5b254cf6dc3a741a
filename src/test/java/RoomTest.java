import com.sun.management.ThreadMXBean;
import java.lang.management.ManagementFactory;

/** That what a run of calls makes fits into the room that all calls of one run share. */
public final class RoomTest {
    // 600,000 objects of 16 bytes and 7,300,000 fields and elements of 4.
    private static final long MOST_BYTES = 600000L * 16 + 7300000L * 4;
    private static final ThreadMXBean THREADS = (ThreadMXBean) ManagementFactory.getThreadMXBean();
    private static final Checks C = new Checks();

    private interface Asked {
        long ask(HeardSecond x);
    }

    public static void main(String[] args) {
        fits("letter", x -> x.letter('s'));
        fits("fault", HeardSecond::fault);
        fits("court", HeardSecond::court);
        fits("seat", x -> x.seat(4, 5));
        fits("as", x -> x.as(4, 0));
        fits("breath", x -> x.breath(31));
        fits("get", x -> x.get(4, 1));
        fits("play", x -> x.play(6, 1));
        fits("hear", x -> x.hear(6, 4));
        fits("rows", x -> x.rows(6, 1));
        fits("when", HeardSecond::when);
        fits("sessions", x -> x.sessions(60, 1, 0));
        fits("image", HeardSecond::image);
        fits("restore", HeardSecond::restore);
        fits("count", x -> x.count(11));
        fits("digest", HeardSecond::digest);
        C.end();
    }

    /** A run that asks nothing else, in the court where most is possible. */
    private static void fits(String call, Asked asked) {
        long before = THREADS.getCurrentThreadAllocatedBytes();
        HeardSecond x = Checks.courtOf("s0,e1,s0,e1,s0;1");
        x.image();
        for (int calls = 18; calls < 512; calls++) {
            asked.ask(x);
        }
        long made = THREADS.getCurrentThreadAllocatedBytes() - before;
        C.due(call + ": whether " + made + " bytes are too many", made > MOST_BYTES ? 1 : 0, 0);
    }
}
