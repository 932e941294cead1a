import com.sun.management.ThreadMXBean;
import java.lang.management.ManagementFactory;

/** All calls of a run live in one room: an object is small, and no call leaves anything behind. */
public final class RoomTest {
    private static final long OBJECT_AT_MOST = 24 * 1024;
    private static final long CALLS_AT_MOST = 4 * 1024;
    private static final ThreadMXBean ROOM = (ThreadMXBean) ManagementFactory.getThreadMXBean();

    public static void main(String[] args) {
        // The first round loads classes, which is not the calls' own.
        RiverThinksAgain warm = new RiverThinksAgain();
        everyCall(warm);
        long thread = Thread.currentThread().getId();
        long before = ROOM.getThreadAllocatedBytes(thread);
        RiverThinksAgain river = new RiverThinksAgain();
        long made = ROOM.getThreadAllocatedBytes(thread) - before;
        before = ROOM.getThreadAllocatedBytes(thread);
        for (int i = 0; i < 10; i++) {
            everyCall(river);
        }
        long left = ROOM.getThreadAllocatedBytes(thread) - before;
        System.out.println("an object takes " + made + " bytes, all its calls " + left);
        System.exit(made <= OBJECT_AT_MOST && left <= CALLS_AT_MOST ? 0 : 1);
    }

    private static void put(RiverThinksAgain x, int... fours) {
        for (int four : fours) {
            x.sign(four);
        }
    }

    private static void everyCall(RiverThinksAgain x) {
        x.end(0);
        put(x, 0x36363030, 0x30303030, 0x31323334, 0x35363738, 0x39303030, 0x30303030, 0x31323334, 0x35363738,
            0x39303132, 0x33343536);
        x.end(38);
        x.land();
        put(x, 0x31323334);
        x.force();
        put(x, 0x682b732a, 0x322d772b);
        x.end(7);
        x.rule();
        x.field(0, 3);
        x.dislikes(0, 1);
        x.sheet(0, 36, 3, 5);
        x.tides(60);
        x.cut(7, 1);
        x.heap(7, 1);
        x.wall(30);
        x.source(3);
        put(x, 0x6e397332, 0x68303031);
        x.year();
        x.undo();
        x.course();
        x.ahead(99);
        x.sits();
        x.alters(99);
        x.mouths(99);
        x.dry(99);
        x.sends(0);
        x.sends(5);
        x.stops();
        x.longest();
        x.least();
        x.draught();
        put(x, 0x31323334, 0x35363738);
        x.timetable(20);
        x.way(1);
        x.arms();
        x.seen(20, 30, 0);
        x.fits();
        x.reed(20);
        x.forget();
        x.marked(3, 0);
        x.laws();
        x.wiped();
        x.bar(60, 9);
        x.open(12, 3, 7);
        put(x, 0x2873292a);
        x.end(3);
        x.law();
        x.rests(20);
        x.years(7, 60);
        x.keep(1);
        x.again(1);
        x.count(5);
        x.row(0);
    }
}
