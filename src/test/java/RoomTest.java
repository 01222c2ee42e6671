import com.sun.management.ThreadMXBean;
import java.lang.management.ManagementFactory;

/**
 * All calls of one run live in one room: a new object must be small, and no call may make rows of
 * its own, not even the dearest.
 */
public final class RoomTest {
    private static final ThreadMXBean THREADS = (ThreadMXBean) ManagementFactory.getThreadMXBean();
    private static final int CALLS = 512;

    public static void main(String[] args) {
        Check check = new Check("RoomTest");
        fullPool();
        long before = bytes();
        PrairiePool x = new PrairiePool();
        long one = bytes() - before;
        check.due("a new object takes at most 100,000 bytes, not " + one, one <= 100000, true);
        PrairiePool full = fullPool();
        askAll(full);
        before = bytes();
        for (int i = 0; i < CALLS / 24; i++) {
            askAll(full);
        }
        long all = bytes() - before;
        check.due("calls make nothing, not " + all + " bytes", all <= 1000, true);
        check.due("status()", x.status(), 0);
        check.end();
    }

    private static long bytes() {
        return THREADS.getCurrentThreadAllocatedBytes();
    }

    private static PrairiePool fullPool() {
        PrairiePool x = new PrairiePool();
        for (int i = 0; i < 20; i++) {
            x.farm(i % 6, 1 + i, i);
            x.sign(i, 0, 9);
        }
        for (int i = 0; i < 8; i++) {
            x.elevator(i % 6, 1000000);
        }
        for (int i = 0; i < 120; i++) {
            if (i % 4 < 2) {
                x.load(i % 20, i % 8, 10000, i, i, i);
            } else if (i % 4 == 2) {
                x.car(i % 8, i % 2, 5, i / 52, 10000, i, i);
            } else {
                x.sale(i % 2, 5, i / 52, 1000, 100, i, i);
            }
        }
        for (int i = 0; i < 100; i++) {
            x.grading(i % 4 < 2 ? i : i - 2, i % 6, i % 6, 519);
        }
        for (int i = 0; i < 60; i++) {
            x.outside(i % 20, i, 10, 10);
        }
        String text = "rank:grader*week;first:grade;held:9;turn:waits%97;votes:acres;breach:1+price";
        while (text.length() < 490) {
            text += "+1*1";
        }
        for (int i = 0; i < 4; i++) {
            Check.acts(x, text + ";", i);
        }
        for (int t = 0; t < 3; t++) {
            x.tray(t, 2, 20);
            for (int i = 0; i < 20; i++) {
                x.write(t, i, 1 + (i * 7 + t) % 20);
            }
        }
        return x;
    }

    private static void askAll(PrairiePool x) {
        x.pour(0, 0, 1, 0, 0);
        x.read(0, 0);
        x.grade(0, 519);
        x.bin(0, 5, 0, -1, 519);
        x.port(0, 5, 0, -1, 519);
        x.sum(-1, 3, 519);
        x.feed(0, 0, 0, 0, 0);
        x.acts(1, 0);
        x.paid(0, 5, 0, 519);
        x.last(0, 0, 519);
        x.first(0, 0, 519);
        x.below(0, 0, 519);
        x.owed(0, 0, 519);
        x.turns(519, 20, 0);
        x.breach(0);
        x.cost(0, 0);
        x.price(0, 100);
        x.alone(0, 0, 519);
        x.more(0, 519);
        x.result(-1, 519);
        x.hangs(519);
        x.warm(0, 1, 8);
        x.turned(0);
        x.send(0, 5, 1, 4, 2);
        x.tray(3, 3, 40);
    }
}
