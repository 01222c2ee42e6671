import java.util.Random;
import java.util.stream.LongStream;

/** Promises 39 to 41: bins that warm, and wheat sent to orders. */
public final class YardTest {
    private static final Check CHECK = new Check("YardTest");

    public static void main(String[] args) {
        warmAsked();
        warmSaves();
        warmRows();
        warmSorts();
        turnedAsked();
        sendAsked();
        sendCosts();
        sendTakesBack();
        sendEdges();
        sendByChance();
        CHECK.end();
    }

    private static void row(PrairiePool x, int tray, int sort, long... v) {
        x.tray(tray, sort, v.length);
        for (int i = 0; i < v.length; i++) {
            x.write(tray, i, v[i]);
        }
    }

    private static void warmAsked() {
        PrairiePool x = new PrairiePool();
        CHECK.refused(x, "warm(-1, 0, 0)", x.warm(-1, 0, 0), 1);
        CHECK.refused(x, "warm(0, 4, 0)", x.warm(0, 4, 0), 1);
        CHECK.refused(x, "warm(0, 1, 0)", x.warm(0, 1, 0), 3);
        row(x, 0, 2, 1, 2, 3);
        CHECK.refused(x, "warm of a MISSING TRAY", x.warm(0, 1, 9), 3);
        CHECK.refused(x, "warm of a MISSING TRAY", x.warm(1, 0, 9), 3);
        row(x, 1, 2, 1, 2);
        CHECK.refused(x, "warm of 0", x.warm(0, 1, 0), 5);
        CHECK.refused(x, "warm of 9", x.warm(0, 1, 9), 5);
        CHECK.refused(x, "warm of -1", x.warm(0, 1, -1), 5);
        CHECK.refused(x, "warm of 3, where one has 2", x.warm(0, 1, 3), 4);
        CHECK.refused(x, "the other way round", x.warm(1, 0, 3), 4);
        CHECK.refused(x, "turned(0)", x.turned(0), 8);
        CHECK.due(x, "warm of 2", x.warm(0, 1, 2), 3, 0);
        x.write(0, 0, -1);
        CHECK.refused(x, "week -1", x.warm(0, 1, 2), 5);
        CHECK.refused(x, "too few comes first", x.warm(0, 1, 3), 4);
        x.write(0, 0, 21);
        CHECK.refused(x, "week 21", x.warm(0, 1, 2), 5);
        x.write(0, 0, 20);
        CHECK.due(x, "week 20", x.warm(0, 1, 2), 3, 0);
        x.write(1, 1, 0);
        CHECK.refused(x, "no bushels", x.warm(0, 1, 2), 5);
        x.write(1, 1, 10001);
        CHECK.refused(x, "10,001 bushels", x.warm(0, 1, 2), 5);
        CHECK.due(x, "but not of one bin", x.warm(0, 1, 1), 1, 0);
        x.write(1, 1, 10000);
        CHECK.due(x, "10,000 bushels", x.warm(0, 1, 2), 10001, 0);
    }

    private static void plan(PrairiePool x, int... bins) {
        for (int week = 0; week < 20; week++) {
            CHECK.due(x, "turned(" + week + ")", x.turned(week), week < bins.length ? bins[week] : -1, 0);
        }
    }

    private static void warmSaves() {
        PrairiePool x = new PrairiePool();
        row(x, 0, 2, 1, 1, 1);
        row(x, 1, 2, 5, 9, 7);
        CHECK.due("one of three", x.warm(0, 1, 3), 9);
        plan(x, 1);
        row(x, 0, 2, 2, 1, 2, 3);
        row(x, 1, 2, 5, 9, 7, 1);
        CHECK.due("the least goes", x.warm(0, 1, 4), 17);
        plan(x, 1, 2, 3);
        row(x, 0, 2, 0, 0);
        row(x, 1, 2, 5, 9);
        CHECK.due("all are lost", x.warm(0, 1, 2), 0);
        plan(x);
        row(x, 0, 2, 0, 1);
        CHECK.due("0 is lost at once", x.warm(0, 1, 2), 9);
        plan(x, 1);
        row(x, 0, 2, 8, 7, 6, 5, 4, 3, 2, 1);
        row(x, 1, 2, 10000, 10000, 10000, 10000, 10000, 10000, 10000, 10000);
        CHECK.due("eight", x.warm(0, 1, 8), 80000);
        plan(x, 7, 6, 5, 4, 3, 2, 1, 0);
        row(x, 0, 2, 4, 4, 4, 4, 4, 4, 4, 4);
        row(x, 1, 2, 1, 8, 2, 7, 3, 6, 4, 5);
        CHECK.due("four of eight", x.warm(0, 1, 8), 26);
        plan(x, 1, 3, 5, 7);
    }

    private static void warmRows() {
        PrairiePool x = new PrairiePool();
        row(x, 0, 2, 20, 20, 20);
        row(x, 1, 2, 1, 1, 1);
        CHECK.due("there is time", x.warm(0, 1, 3), 3);
        plan(x, 0, 1, 2);
        row(x, 0, 2, 3, 3, 1);
        CHECK.due("the last must be first", x.warm(0, 1, 3), 3);
        plan(x, 2, 0, 1);
        row(x, 0, 2, 3, 2, 2);
        CHECK.due("the first can wait: it would cost one", x.warm(0, 1, 3), 3);
        plan(x, 1, 2, 0);
        row(x, 0, 2, 3, 3, 2);
        CHECK.due("the first need not wait", x.warm(0, 1, 3), 3);
        plan(x, 0, 2, 1);
        // Of several that save as much, the first row.
        row(x, 0, 2, 1, 1, 2);
        row(x, 1, 2, 5, 5, 5);
        CHECK.due("0 or 1", x.warm(0, 1, 3), 10);
        plan(x, 0, 2);
        row(x, 0, 2, 2, 2, 2);
        CHECK.due("two of three", x.warm(0, 1, 3), 10);
        plan(x, 0, 1);
        // 3 and 4 together are as much as 7: but more bins are turned ahead of none.
        row(x, 0, 2, 2, 2, 1);
        row(x, 1, 2, 3, 4, 7);
        CHECK.due("7 and 4", x.warm(0, 1, 3), 11);
        plan(x, 2, 1);
    }

    private static void warmSorts() {
        PrairiePool x = new PrairiePool();
        row(x, 0, 0, 2, 1);
        row(x, 1, 3, 300, 200);
        CHECK.due("TRAYS of unlike sorts", x.warm(0, 1, 2), 500);
        plan(x, 1, 0);
        CHECK.due("one TRAY for both", x.warm(0, 0, 2), 3);
        row(x, 1, 3, 1L << 32 | 5, 5);
        CHECK.refused(x, "a number of 64 bits", x.warm(0, 1, 2), 5);
        plan(x, 1, 0);
    }

    private static void turnedAsked() {
        PrairiePool x = new PrairiePool();
        CHECK.refused(x, "no warm", x.turned(0), 8);
        row(x, 0, 2, 1);
        row(x, 1, 2, 1);
        x.warm(0, 1, 1);
        CHECK.due(x, "turned(0)", x.turned(0), 0, 0);
        CHECK.due(x, "turned(1)", x.turned(1), -1, 0);
        CHECK.due(x, "turned(19)", x.turned(19), -1, 0);
        CHECK.refused(x, "turned(20)", x.turned(20), 8);
        CHECK.refused(x, "turned(-1)", x.turned(-1), 8);
        CHECK.refused(x, "turned(MAX)", x.turned(Integer.MAX_VALUE), 8);
        x.warm(0, 1, 2);
        CHECK.due(x, "of the latest with STATUS 0", x.turned(0), 0, 0);
    }

    private static void sendAsked() {
        PrairiePool x = new PrairiePool();
        CHECK.refused(x, "no TRAY of bins", x.send(4, 0, 0, 0, 0), 1);
        CHECK.refused(x, "no TRAY of orders", x.send(0, 0, -1, 0, 0), 1);
        CHECK.refused(x, "no TRAY of costs", x.send(0, 0, 0, 0, 4), 1);
        CHECK.refused(x, "MISSING ones", x.send(0, 0, 1, 0, 2), 3);
        row(x, 0, 2, 5, 5);
        CHECK.refused(x, "MISSING orders", x.send(0, 0, 1, 0, 0), 3);
        CHECK.refused(x, "MISSING costs", x.send(0, 0, 0, 0, 2), 3);
        CHECK.refused(x, "MISSING bins", x.send(1, 0, 0, 0, 0), 3);
        row(x, 1, 2, 3, 6);
        row(x, 2, 2, 1, 2, 3, 4);
        CHECK.refused(x, "0 bins", x.send(0, 0, 1, 2, 2), 5);
        CHECK.refused(x, "6 bins", x.send(0, 6, 1, 2, 2), 5);
        CHECK.refused(x, "0 orders", x.send(0, 2, 1, 0, 2), 5);
        CHECK.refused(x, "5 orders", x.send(0, 2, 1, 5, 2), 5);
        CHECK.refused(x, "MIN", x.send(0, Integer.MIN_VALUE, 1, Integer.MIN_VALUE, 2), 5);
        CHECK.refused(x, "too few bins", x.send(0, 3, 1, 1, 2), 4);
        CHECK.refused(x, "too few orders", x.send(0, 1, 1, 3, 2), 4);
        CHECK.refused(x, "too few costs", x.send(0, 2, 1, 2, 1), 4);
        CHECK.due(x, "send", x.send(0, 2, 1, 2, 2), 1 * 3 + 2 * 2 + 4 * 4, 0);
        int[][] bad = {{0, 0, -1}, {0, 1, 31}, {1, 0, -1}, {1, 1, 31}, {2, 0, -1}, {2, 3, 101}};
        for (int[] b : bad) {
            long was = x.read(b[0], b[1]);
            x.write(b[0], b[1], b[2]);
            CHECK.refused(x, "a number that can't be", x.send(0, 2, 1, 2, 2), 5);
            x.write(b[0], b[1], was);
        }
        x.write(0, 0, 3);
        CHECK.refused(x, "there is too little", x.send(0, 2, 1, 2, 2), 9);
        x.write(2, 0, 101);
        CHECK.refused(x, "a number that can't be is asked first", x.send(0, 2, 1, 2, 2), 5);
    }

    private static void sendCosts() {
        PrairiePool x = new PrairiePool();
        row(x, 0, 0, 10);
        row(x, 1, 1, 4);
        row(x, 2, 3, 7);
        CHECK.due("one to one", x.send(0, 1, 1, 1, 2), 28);
        row(x, 0, 2, 10, 10, 10);
        row(x, 1, 2, 15);
        row(x, 2, 2, 9, 3, 5);
        CHECK.due("the cheapest bins", x.send(0, 3, 1, 1, 2), 30 + 25);
        row(x, 0, 2, 30);
        row(x, 1, 2, 5, 6, 7, 8);
        row(x, 2, 2, 1, 2, 3, 4);
        CHECK.due("bin by bin, order by order", x.send(0, 1, 1, 4, 2), 5 + 12 + 21 + 32);
        row(x, 0, 2, 1, 2, 3, 4, 5);
        row(x, 1, 2, 6, 9);
        row(x, 2, 2, 0, 9, 0, 9, 0, 9, 9, 0, 9, 0);
        CHECK.due("for nothing", x.send(0, 5, 1, 2, 2), 0);
    }

    private static void sendTakesBack() {
        PrairiePool x = new PrairiePool();
        // The cheapest way at first is not the best in all.
        row(x, 0, 2, 1, 1);
        row(x, 1, 2, 1, 1);
        row(x, 2, 2, 1, 2, 2, 100);
        CHECK.due("crosswise", x.send(0, 2, 1, 2, 2), 4);
        row(x, 0, 2, 1, 1, 1);
        row(x, 1, 2, 1, 1, 1);
        row(x, 2, 2, 1, 2, 100, 100, 1, 2, 3, 100, 100);
        CHECK.due("a long way round", x.send(0, 3, 1, 3, 2), 2 + 2 + 3);
        row(x, 0, 2, 30, 30, 30, 30);
        row(x, 1, 2, 30, 30, 30, 30);
        row(x, 2, 2, 1, 50, 50, 50, 0, 1, 50, 50, 50, 0, 1, 50, 50, 50, 0, 1);
        CHECK.due("full ones", x.send(0, 4, 1, 4, 2), 120);
    }

    private static void sendByChance() {
        Random chance = new Random(1);
        for (int i = 0; i < 4000; i++) {
            PrairiePool x = new PrairiePool();
            int bins = 1 + chance.nextInt(5);
            int orders = 1 + chance.nextInt(4);
            int most = 1 + chance.nextInt(30);
            int dearest = 1 + chance.nextInt(100);
            long[] have = chance.longs(bins, 0, most + 1).toArray();
            long[] want = chance.longs(orders, 0, (most + 1) / 2 + 1).toArray();
            long[] costs = chance.longs(bins * orders, 0, dearest + 1).toArray();
            row(x, 0, 2, have);
            row(x, 1, 2, want);
            row(x, 2, 2, costs);
            boolean enough = LongStream.of(have).sum() >= LongStream.of(want).sum();
            if (enough) {
                CHECK.due(x, "send", x.send(0, bins, 1, orders, 2), ModelSending.least(have, want, costs), 0);
            } else {
                CHECK.refused(x, "send of too little", x.send(0, bins, 1, orders, 2), 9);
            }
        }
    }

    private static void sendEdges() {
        PrairiePool w = new PrairiePool();
        row(w, 0, 2, 1, 1, 1);
        row(w, 1, 2, 1, 1, 1);
        row(w, 2, 2, 1, 1, 1, 1, 1, 1, 1, 1, 101);
        CHECK.refused(w, "the last cost can't be", w.send(0, 3, 1, 3, 2), 5);
        CHECK.due(w, "but is not asked", w.send(0, 3, 1, 2, 2), 2, 0);
        PrairiePool x = new PrairiePool();
        row(x, 0, 2, 0, 0);
        row(x, 1, 2, 0, 0);
        row(x, 2, 2, 1, 1, 1, 1);
        CHECK.due(x, "nothing is wanted", x.send(0, 2, 1, 2, 2), 0, 0);
        CHECK.due(x, "one TRAY for all", x.send(0, 1, 0, 1, 0), 0, 0);
        row(x, 0, 2, 30, 30, 30, 30, 30);
        row(x, 1, 2, 30, 30, 30, 30);
        row(x, 2, 2, 100, 100, 100, 100, 100, 100, 100, 100, 100, 100, 100, 100, 100, 100, 100, 100, 100, 100, 100,
                100);
        CHECK.due(x, "the dearest", x.send(0, 5, 1, 4, 2), 12000, 0);
        row(x, 3, 2, 7, 7);
        CHECK.due(x, "7 of 7 for 7", x.send(3, 1, 3, 1, 3), 49, 0);
        // The TRAYS are as they were.
        CHECK.due("read", x.read(3, 0), 7);
        CHECK.due("read", x.read(0, 0), 30);
    }
}
