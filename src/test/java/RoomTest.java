import com.sun.management.ThreadMXBean;
import java.lang.management.ManagementFactory;

/** That 512 calls of each kind, the dearest ones, keep far below the room that all calls of a run have. */
public final class RoomTest {
    /** 600,000 objects, of which none takes less than 16 bytes. */
    private static final long ROOM = 600_000L * 16;
    private static final int CALLS = 512;
    private static final Due DUE = new Due("RoomTest");
    private static final ThreadMXBean THREADS = (ThreadMXBean) ManagementFactory.getThreadMXBean();

    public static void main(String[] args) {
        if (!THREADS.isThreadAllocatedMemorySupported()) {
            System.out.println("RoomTest: this java does not tell what is made, so nothing is counted");
            return;
        }
        made("new objects", (net, call) -> new NightNet().count(0));
        made("write, wipe", (net, call) -> call % 73 == 72 ? net.wipe() : net.write('N'));
        made("fault", (net, call) -> net.fault());
        made("letting, best", (net, call) -> call % 2 == 0 ? net.letting() : net.best(5, 2));
        made("wish, place", (net, call) -> net.wish(call % 5, call % 7) + net.place(call % 12, call % 4));
        made("dark, read", (net, call) -> net.dark(call % 12, call % 6) + net.read(call % 12));
        made("hang, take", (net, call) -> call % 2 == 0 ? net.take(0) : net.hang(0));
        made("move, hour, undo", (net, call) -> call % 3 == 0 ? net.move(2, 1) : call % 3 == 1 ? net.hour() : net.undo());
        made("judge", (net, call) -> net.judge(2, 22030));
        made("worth, lawful, loss", (net, call) -> net.worth(31) + net.lawful(31) + net.loss(0));
        made("many, bars", (net, call) -> net.many(call % 6) + net.bars(call % 5, 5));
        made("flow", (net, call) -> net.flow(31 << 6));
        made("due, share", (net, call) -> net.due(call % 5, 5) + net.share(call % 5, 5, true));
        made("tell, fits", (net, call) -> call % 7 == 0 ? net.untell() : net.tell(call % 12, 0, true) + net.fits(5, 1));
        made("wind", (net, call) -> net.wind(call % 11, false));
        made("storm, seed", (net, call) -> net.storm(40) + net.seed(call));
        made("keep, again, count", (net, call) -> net.keep(0) + net.again(0) + net.count(8));
        DUE.close();
    }

    private interface Asked {
        long call(NightNet net, int call);
    }

    private static void made(String calls, Asked asked) {
        NightNet net = Due.let(Due.LONGEST);
        asked.call(net, 0);
        long before = THREADS.getCurrentThreadAllocatedBytes();
        for (int call = 0; call < CALLS; call++) {
            asked.call(net, call);
        }
        long bytes = THREADS.getCurrentThreadAllocatedBytes() - before;
        DUE.same(calls + ": " + bytes + " bytes made", bytes < ROOM ? 1 : 0, 1);
    }
}
