import com.sun.management.ThreadMXBean;
import java.lang.management.ManagementFactory;

/** Runs of 512 calls, of those that make the most objects, stay far below the room that there is. */
public final class RoomTest {
    private static final int CALLS = 512;
    /** A tenth of what 7.3 million elements of one byte each take. */
    private static final long MOST_BYTES = 730_000;
    private static final String MOST = "1.0.0-a.b.c.d.e.f.g.h.i;1 >=1.0.0-a.b.c.d.e.f.g.h.i,>=1.0.0-a.b.c.d.e.f.g.h.i,"
            + ">=1.0.0-a.b.c.d.e.f.g.h.i,>=1.0.0-a.b.c.d.e.f.g.h.i;2 *;3 *;4 *;5 *";

    public static void main(String[] args) {
        int feeds = (MOST.length() + 7) / 8;
        VersionSolver x = new VersionSolver();
        spends("publish", CALLS / (feeds + 1), () -> {
            Checks.feed(x, MOST);
            return x.publish(0);
        });
        String requirement = MOST.substring(MOST.indexOf(' ') + 1, MOST.indexOf(";2"));
        spends("meets", CALLS / (requirement.length() / 8 + 2), () -> Checks.meets(x, 0, requirement));
        spends("want", CALLS / 2, () -> Checks.want(x, 1, "1,2,3,4"));
        spends("best", CALLS / 2, () -> Checks.best(x, 0, "1,2,3,4"));
        x.drop(1);
        spends("solve", CALLS, x::solve);
        spends("lock", CALLS, x::lock);
        spends("write", CALLS, x::write);
        spends("new", 10, VersionSolver::new);
        Checks.end("RoomTest");
    }

    private static void spends(String what, int times, Checks.Call call) {
        ThreadMXBean threads = (ThreadMXBean) ManagementFactory.getThreadMXBean();
        Checks.answerOf(call);
        long before = threads.getThreadAllocatedBytes(Thread.currentThread().getId());
        for (int i = 0; i < times; i++) {
            Checks.answerOf(call);
        }
        long bytes = threads.getThreadAllocatedBytes(Thread.currentThread().getId()) - before;
        Checks.due(times + " times " + what + " spends " + bytes + " bytes", true, () -> bytes <= MOST_BYTES);
        System.out.println("RoomTest: " + times + " times " + what + " spends " + bytes + " bytes");
    }
}
