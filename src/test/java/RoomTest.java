import com.sun.management.ThreadMXBean;
import java.lang.management.ManagementFactory;

/** All calls of a run live in one room: what an object makes, it makes once. */
public final class RoomTest {
    private static final Due due = new Due();
    private static final int MOST_BYTES = 40_000;

    public static void main(String[] args) {
        ThreadMXBean threads = (ThreadMXBean) ManagementFactory.getThreadMXBean();
        long id = Thread.currentThread().getId();
        dearRun();
        long ahead = threads.getThreadAllocatedBytes(id);
        int calls = dearRun();
        long bytes = threads.getThreadAllocatedBytes(id) - ahead;
        due.is("calls of a run", calls, 512);
        due.holds("512 dear calls make " + bytes + " bytes", bytes < MOST_BYTES);
        due.end("RoomTest");
    }

    private static int dearRun() {
        MovingHills x = new MovingHills();
        int calls = write(x) + 2;
        x.land(0);
        x.heights(1);
        while (calls + 20 <= 512) calls += round(x, calls);
        while (calls < 512) {
            x.digest();
            calls++;
        }
        return calls;
    }

    private static int write(MovingHills x) {
        String land = "g9999999999 t49 d59 b69";
        x.text(0, land.length());
        for (int i = 0; i < land.length(); i++) x.put(0, i, land.charAt(i));
        return 1 + land.length();
    }

    private static int round(MovingHills x, int calls) {
        x.flat(0b11, 0);
        x.raise(4, 40, 3, 0);
        x.twice(1);
        x.rivals(0, 1, 4, 6);
        x.keep(calls % 3);
        x.evening(calls % 27);
        x.on(calls % 3);
        x.season(1, calls);
        x.undo(0);
        x.rest(13);
        x.round(26);
        x.behind(13, 60, 4);
        x.row(calls % 6, 40);
        x.heights(1);
        x.text(1 + calls % 3, 80);
        x.fault(0);
        x.land(0);
        x.digest();
        x.played(1);
        x.keeps(4);
        return 20;
    }
}
