import java.lang.management.ManagementFactory;
import java.lang.reflect.Array;
import java.lang.reflect.Field;
import java.lang.reflect.Modifier;

/** An object's room is small; but for the first walks(), which makes one row and keeps it, calls make nothing. */
public final class RoomTest {
    private static final int MOST_IN_ALL = 7_300_000;
    private static final int MOST_CALLS = 512;

    private static long roomOf(Object x) throws ReflectiveOperationException {
        if (x.getClass().isArray()) {
            return Array.getLength(x);
        }
        long sum = 0;
        for (Field f : x.getClass().getDeclaredFields()) {
            if (!Modifier.isStatic(f.getModifiers())) {
                f.setAccessible(true);
                sum += 1 + (f.getType().isPrimitive() ? 0 : roomOf(f.get(x)));
            }
        }
        return sum;
    }

    /** All that 512 calls can make, be they as dear as they may, must fit in a run's room. */
    private static void checkDearestRun(Check check) throws ReflectiveOperationException {
        MeetingRanks x = new MeetingRanks();
        long made = roomOf(x);
        check.isTrue("512 new objects: " + made + " each", made * MOST_CALLS < MOST_IN_ALL);
        x.walks();
        long asked = roomOf(x);
        check.isTrue("256 new ones, each asked for WALKS: " + asked, asked * MOST_CALLS / 2 < MOST_IN_ALL);
        check.isTrue("512 times what the first walks() makes", (asked - made) * MOST_CALLS < MOST_IN_ALL);
    }

    private static long allocated() {
        return ((com.sun.management.ThreadMXBean) ManagementFactory.getThreadMXBean())
                .getThreadAllocatedBytes(Thread.currentThread().getId());
    }

    private static long callAll(MeetingRanks x, int i) {
        long sum = x.meet(i % 10, (i * 7 + 1) % 10, i % 5, i % 3) + x.next(i % 10, (i + 1) % 10) + x.tie(i % 6);
        sum += x.feed(i, 66049, i, i, i) + x.sheet(4) + (x.rule(i % 11, 1, 0) ? 1 : 0) + x.best() + x.rows();
        sum += x.first() + x.bound() + x.core() + x.champion() + x.walks() + x.may(i % 10) + x.why(i % 10);
        sum += x.heaps() + x.heap(i % 10) + x.gap(i % 10, 0) + x.cost(123456789L) + x.table(i % 10);
        sum += (x.tied(i % 10) ? 1 : 0) + x.number(i % 6, i % 10) + x.score(i % 10) + x.over(0, i % 10);
        sum += x.about(i % 8) + x.meeting(i, i % 4) + (i % 9 == 0 ? x.undo(3) : 0) + (i % 4 == 0 ? x.ties() : 0);
        return sum + (x.drop(i % 50) ? 1 : 0) + x.player();
    }

    public static void main(String[] args) throws ReflectiveOperationException {
        Check check = new Check();
        checkDearestRun(check);
        MeetingRanks x = new MeetingRanks();
        long sum = x.walks();
        long room = roomOf(x);
        for (int i = 0; i < 100; i++) {
            sum += callAll(x, i);
        }
        long before = allocated();
        for (int i = 0; i < 1000; i++) {
            sum += callAll(x, i);
        }
        long made = allocated() - before;
        // What the machine itself makes meanwhile is some few hundred bytes; one array a call would be far more.
        check.isTrue("30,000 calls make nothing: " + made + " bytes (" + sum + ")", made < 16_000);
        check.due("an object's room stays", roomOf(x), room);
        check.end();
    }
}
