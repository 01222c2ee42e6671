/** Bins and orders of part 5, promises 39 to 41: a test of its own for each sentence that names an edge. */
public final class EdgesOfYardTest {
    private static final Check CHECK = new Check("EdgesOfYardTest");
    private static final int MIN = Integer.MIN_VALUE;
    private static final int MAX = Integer.MAX_VALUE;

    public static void main(String[] args) {
        CHECK.says("bins, 1 to 8, in two TRAYS: WEEKS until each spoils (0 to 20), bushels (1 to 10,000)",
                EdgesOfYardTest::warmNumbers);
        CHECK.says("WARM: SAVED (1; 3; 5: so many; 4; 5: a number; in this order, each asked of both TRAYS)",
                EdgesOfYardTest::warmOrder);
        CHECK.says("one that is not turned in a WEEK less than its number is lost", EdgesOfYardTest::lost);
        CHECK.says("Each WEEK from 0 on one bin may be turned, which keeps it", EdgesOfYardTest::oneAWeek);
        CHECK.says("SAVED: the most bushels together", EdgesOfYardTest::most);
        CHECK.says("of several the first row: WEEK by WEEK the lesser bin that is turned, none behind all",
                EdgesOfYardTest::firstRow);
        CHECK.says("The bin turned in a WEEK by warm() latest with STATUS 0; STATUS 0 also with NONE: none is (8: no"
                + " warm(), a WEEK below 0, or above 19)", EdgesOfYardTest::turned);
        CHECK.says("SENT: bins, 1 to 5, with bushels (0 to 30 each), to orders, 1 to 4, of bushels (0 to 30 each), by"
                + " costs (0 to 100 a bushel, a row of a TRAY: bin by bin, order by order)",
                EdgesOfYardTest::sendNumbers);
        CHECK.says("costs in three TRAYS (1; 3; 5: so many; 4; 5: a number; 9: there is too little; in this order, each"
                + " asked of all TRAYS)", EdgesOfYardTest::sendOrder);
        CHECK.says("9: there is too little", EdgesOfYardTest::tooLittle);
        CHECK.says("all orders filled: the LEAST cost", EdgesOfYardTest::least);
        CHECK.end();
    }

    private static void row(PrairiePool x, int tray, long... v) {
        x.tray(tray, 3, v.length);
        for (int i = 0; i < v.length; i++) {
            x.write(tray, i, v[i]);
        }
    }

    private static PrairiePool warm(int many) {
        PrairiePool x = new PrairiePool();
        x.tray(0, 3, many);
        x.tray(1, 3, many);
        for (int i = 0; i < many; i++) {
            x.write(0, i, 20);
            x.write(1, i, 1);
        }
        return x;
    }

    private static void plan(PrairiePool x, int... bins) {
        for (int week = 0; week < 20; week++) {
            CHECK.due(x, "turned(" + week + ")", x.turned(week), week < bins.length ? bins[week] : -1, 0);
        }
    }

    private static void warmNumbers() {
        PrairiePool x = warm(40);
        for (int many = 1; many <= 8; many++) {
            CHECK.due(x, many + " bins", x.warm(0, 1, many), many, 0);
        }
        for (int many : new int[] {0, -1, 9, MIN, MAX}) {
            CHECK.refused(x, many + " bins", x.warm(0, 1, many), 5);
        }
        for (int place : new int[] {0, 7}) {
            for (long weeks : new long[] {-1, 21, 1L << 32, Long.MIN_VALUE, Long.MAX_VALUE}) {
                x.write(0, place, weeks);
                CHECK.refused(x, "WEEKS " + weeks, x.warm(0, 1, 8), 5);
            }
            x.write(0, place, 0);
            CHECK.due(x, "WEEKS 0", x.warm(0, 1, 8), 7, 0);
            x.write(0, place, 20);
            CHECK.due(x, "WEEKS 20", x.warm(0, 1, 8), 8, 0);
            for (long bushels : new long[] {0, -1, 10001, 1L << 32 | 1, Long.MIN_VALUE, Long.MAX_VALUE}) {
                x.write(1, place, bushels);
                CHECK.refused(x, "bushels " + bushels, x.warm(0, 1, 8), 5);
            }
            x.write(1, place, 10000);
            CHECK.due(x, "bushels 10,000", x.warm(0, 1, 8), 10007, 0);
            x.write(1, place, 1);
        }
        // What is behind the bins is not asked.
        x.write(0, 8, 21);
        x.write(1, 8, 0);
        CHECK.due(x, "the ninth is none of eight", x.warm(0, 1, 8), 8, 0);
        PrairiePool y = new PrairiePool();
        row(y, 0, 20, 20, 20, 20, 20, 20, 20, 20);
        row(y, 1, 10000, 10000, 10000, 10000, 10000, 10000, 10000, 10000);
        CHECK.due(y, "as many as there can be", y.warm(0, 1, 8), 80000, 0);
    }

    private static void warmOrder() {
        PrairiePool x = new PrairiePool();
        row(x, 0, 21);
        for (int tray : new int[] {-1, 4, MIN, MAX}) {
            CHECK.refused(x, "WEEKS in no TRAY", x.warm(tray, 3, 0), 1);
            CHECK.refused(x, "bushels in no TRAY", x.warm(3, tray, 0), 1);
        }
        CHECK.refused(x, "MISSING WEEKS, and so many", x.warm(3, 0, 0), 3);
        CHECK.refused(x, "MISSING bushels, and so many", x.warm(0, 3, 9), 3);
        row(x, 1, 0, 0);
        CHECK.refused(x, "so many, and too few, and a number", x.warm(0, 1, 9), 5);
        CHECK.refused(x, "so many", x.warm(0, 1, 0), 5);
        CHECK.refused(x, "too few WEEKS, and a number", x.warm(0, 1, 2), 4);
        CHECK.refused(x, "too few bushels, and a number", x.warm(1, 0, 2), 4);
        CHECK.refused(x, "a number of WEEKS", x.warm(0, 1, 1), 5);
        row(x, 0, 20);
        CHECK.refused(x, "a number of bushels", x.warm(0, 1, 1), 5);
        row(x, 1, 1);
        CHECK.due(x, "none of these", x.warm(0, 1, 1), 1, 0);
        row(x, 2);
        CHECK.refused(x, "an empty TRAY", x.warm(0, 2, 1), 4);
        CHECK.refused(x, "an empty TRAY", x.warm(2, 1, 1), 4);
        CHECK.due(x, "one TRAY for both", x.warm(1, 1, 1), 1, 0);
    }

    private static void lost() {
        PrairiePool x = new PrairiePool();
        row(x, 0, 0);
        row(x, 1, 7);
        CHECK.due(x, "0 is lost at once", x.warm(0, 1, 1), 0, 0);
        plan(x);
        row(x, 0, 1);
        CHECK.due(x, "1 is kept in WEEK 0", x.warm(0, 1, 1), 7, 0);
        plan(x, 0);
        row(x, 0, 1, 1);
        row(x, 1, 7, 7);
        CHECK.due(x, "but not in WEEK 1", x.warm(0, 1, 2), 7, 0);
        plan(x, 0);
        row(x, 0, 1, 2);
        CHECK.due(x, "2 is kept in WEEK 1", x.warm(0, 1, 2), 14, 0);
        plan(x, 0, 1);
        row(x, 0, 2, 2, 2);
        row(x, 1, 7, 7, 7);
        CHECK.due(x, "but not in WEEK 2", x.warm(0, 1, 3), 14, 0);
        plan(x, 0, 1);
        row(x, 0, 8, 8, 8, 8, 8, 8, 8, 8);
        row(x, 1, 1, 1, 1, 1, 1, 1, 1, 1);
        CHECK.due(x, "8 is kept in WEEK 7", x.warm(0, 1, 8), 8, 0);
        plan(x, 0, 1, 2, 3, 4, 5, 6, 7);
        row(x, 0, 7, 7, 7, 7, 7, 7, 7, 7);
        CHECK.due(x, "7 is not", x.warm(0, 1, 8), 7, 0);
        plan(x, 0, 1, 2, 3, 4, 5, 6);
    }

    private static void oneAWeek() {
        PrairiePool x = new PrairiePool();
        row(x, 0, 1, 1, 1, 1, 1, 1, 1, 1);
        row(x, 1, 1, 2, 3, 4, 8, 7, 6, 5);
        CHECK.due(x, "one of eight", x.warm(0, 1, 8), 8, 0);
        plan(x, 4);
        // Turned once it is kept: it need not be turned again, however few its WEEKS are.
        row(x, 0, 1, 2, 3);
        row(x, 1, 5, 5, 5);
        CHECK.due(x, "each once", x.warm(0, 1, 3), 15, 0);
        plan(x, 0, 1, 2);
    }

    private static void most() {
        PrairiePool x = new PrairiePool();
        // Two small ones are more than a great one, if they can be had both: here only one of them.
        row(x, 0, 1, 1, 2);
        row(x, 1, 6, 5, 1);
        CHECK.due(x, "6 and 1", x.warm(0, 1, 3), 7, 0);
        plan(x, 0, 2);
        row(x, 0, 2, 2, 1);
        row(x, 1, 5, 6, 10);
        CHECK.due(x, "10 and 6", x.warm(0, 1, 3), 16, 0);
        plan(x, 2, 1);
        row(x, 1, 5, 6, 4);
        CHECK.due(x, "5 and 6", x.warm(0, 1, 3), 11, 0);
        plan(x, 0, 1);
        // The great one can wait.
        row(x, 0, 20, 1);
        row(x, 1, 10000, 1);
        CHECK.due(x, "both", x.warm(0, 1, 2), 10001, 0);
        plan(x, 1, 0);
    }

    private static void firstRow() {
        PrairiePool x = new PrairiePool();
        row(x, 0, 20, 20, 20, 20, 20, 20, 20, 20);
        row(x, 1, 1, 2, 3, 4, 5, 6, 7, 8);
        CHECK.due(x, "all", x.warm(0, 1, 8), 36, 0);
        plan(x, 0, 1, 2, 3, 4, 5, 6, 7);
        // None is behind all: a bin that could wait is turned at once.
        row(x, 0, 20);
        row(x, 1, 1);
        CHECK.due(x, "one", x.warm(0, 1, 1), 1, 0);
        plan(x, 0);
        row(x, 0, 0, 20, 0, 20);
        row(x, 1, 9, 1, 9, 1);
        CHECK.due(x, "those that are not lost", x.warm(0, 1, 4), 2, 0);
        plan(x, 1, 3);
        // The lesser bin first, as long as nothing is lost by it.
        row(x, 0, 3, 3, 2, 1);
        row(x, 1, 5, 5, 5, 5);
        CHECK.due(x, "three of four", x.warm(0, 1, 4), 15, 0);
        plan(x, 0, 2, 1);
        row(x, 1, 5, 5, 5, 6);
        CHECK.due(x, "3 must be first", x.warm(0, 1, 4), 16, 0);
        plan(x, 3, 0, 1);
        row(x, 0, 2, 1, 1);
        row(x, 1, 5, 5, 5);
        CHECK.due(x, "0 can wait, 1 is the lesser of two", x.warm(0, 1, 3), 10, 0);
        plan(x, 1, 0);
        row(x, 0, 1, 2, 2);
        CHECK.due(x, "two of three", x.warm(0, 1, 3), 10, 0);
        plan(x, 0, 1);
        row(x, 0, 2, 2, 2);
        row(x, 1, 4, 6, 5);
        CHECK.due(x, "the two greatest", x.warm(0, 1, 3), 11, 0);
        plan(x, 1, 2);
        row(x, 0, 2, 2, 2, 2);
        row(x, 1, 4, 4, 4, 4);
        CHECK.due(x, "any two of four", x.warm(0, 1, 4), 8, 0);
        plan(x, 0, 1);
    }

    private static void turned() {
        PrairiePool x = new PrairiePool();
        for (int week : new int[] {-1, 0, 19, 20, MIN, MAX}) {
            CHECK.refused(x, "ahead of any: " + week, x.turned(week), 8);
        }
        x.warm(0, 1, 1);
        CHECK.refused(x, "behind one that was refused", x.turned(0), 8);
        row(x, 0, 1, 3);
        row(x, 1, 4, 4);
        CHECK.due(x, "warm", x.warm(0, 1, 2), 8, 0);
        plan(x, 0, 1);
        for (int week : new int[] {-1, 20, MIN, MAX}) {
            CHECK.refused(x, "WEEK " + week, x.turned(week), 8);
        }
        CHECK.due(x, "WEEK 19", x.turned(19), -1, 0);
        x.write(0, 0, 0);
        plan(x, 0, 1);
        x.warm(0, 1, 3);
        CHECK.due("STATUS 4", x.status(), 4);
        plan(x, 0, 1);
        x.write(0, 1, 21);
        x.warm(0, 1, 2);
        CHECK.due("STATUS 5", x.status(), 5);
        plan(x, 0, 1);
        CHECK.due(x, "the latest: one bin that is lost", x.warm(0, 1, 1), 0, 0);
        plan(x);
        // What send does is another thing.
        x.write(0, 0, 1);
        x.warm(0, 1, 1);
        row(x, 2, 1);
        x.send(2, 1, 2, 1, 2);
        CHECK.due("STATUS of send", x.status(), 0);
        plan(x, 0);
    }

    // ---- SENT

    private static PrairiePool orders(int bins, int orders) {
        PrairiePool x = new PrairiePool();
        x.tray(0, 3, bins);
        x.tray(1, 3, orders);
        x.tray(2, 3, bins * orders);
        return x;
    }

    private static void sendNumbers() {
        for (int b = 1; b <= 5; b++) {
            for (int o = 1; o <= 4; o++) {
                PrairiePool x = orders(b, o);
                CHECK.due(x, "nothing of " + b + " to " + o, x.send(0, b, 1, o, 2), 0, 0);
                // The last bin to the last order, by the last cost.
                x.write(0, b - 1, 30);
                x.write(1, o - 1, 30);
                x.write(2, b * o - 1, 100);
                CHECK.due(x, "the last of " + b + " to " + o, x.send(0, b, 1, o, 2), 3000, 0);
            }
        }
        PrairiePool x = new PrairiePool();
        for (int tray = 0; tray < 3; tray++) {
            x.tray(tray, 3, 40);
        }
        for (int b : new int[] {0, -1, 6, MIN, MAX}) {
            CHECK.refused(x, b + " bins", x.send(0, b, 1, 1, 2), 5);
        }
        for (int o : new int[] {0, -1, 5, MIN, MAX}) {
            CHECK.refused(x, o + " orders", x.send(0, 1, 1, o, 2), 5);
        }
        int[][] rows = {{0, 0, 30}, {0, 4, 30}, {1, 0, 30}, {1, 3, 30}, {2, 0, 100}, {2, 19, 100}};
        for (int[] r : rows) {
            PrairiePool y = orders(5, 4);
            for (int bin = 0; bin < 5; bin++) {
                y.write(0, bin, 30);
            }
            y.write(r[0], r[1], r[2]);
            CHECK.due(y, "the greatest", y.send(0, 5, 1, 4, 2), 0, 0);
            for (long v : new long[] {-1, r[2] + 1, 1L << 32, Long.MIN_VALUE, Long.MAX_VALUE}) {
                y.write(r[0], r[1], v);
                CHECK.refused(y, v + " in TRAY " + r[0], y.send(0, 5, 1, 4, 2), 5);
            }
        }
        // Bin by bin, order by order.
        PrairiePool z = orders(2, 3);
        row(z, 0, 6, 0);
        row(z, 1, 1, 2, 3);
        row(z, 2, 1, 10, 100, 0, 0, 0);
        CHECK.due(z, "the first bin's costs", z.send(0, 2, 1, 3, 2), 1 + 20 + 300, 0);
        row(z, 0, 0, 6);
        CHECK.due(z, "the second bin's costs", z.send(0, 2, 1, 3, 2), 0, 0);
        // What is behind them is not asked.
        row(z, 0, 6, 99);
        row(z, 1, 6, 99);
        row(z, 2, 7, 101);
        CHECK.due(z, "one to one", z.send(0, 1, 1, 1, 2), 42, 0);
    }

    private static void sendOrder() {
        PrairiePool x = new PrairiePool();
        row(x, 0, 31);
        for (int tray : new int[] {-1, 4, MIN, MAX}) {
            CHECK.refused(x, "bins in no TRAY", x.send(tray, 0, 3, 0, 3), 1);
            CHECK.refused(x, "orders in no TRAY", x.send(3, 0, tray, 0, 3), 1);
            CHECK.refused(x, "costs in no TRAY", x.send(3, 0, 3, 0, tray), 1);
        }
        CHECK.refused(x, "MISSING bins", x.send(3, 0, 0, 0, 0), 3);
        CHECK.refused(x, "MISSING orders", x.send(0, 0, 3, 0, 0), 3);
        CHECK.refused(x, "MISSING costs", x.send(0, 0, 0, 0, 3), 3);
        row(x, 1, 31);
        row(x, 2, 101);
        CHECK.refused(x, "so many bins, and too few, and a number", x.send(0, 6, 1, 2, 2), 5);
        CHECK.refused(x, "so many orders, and too few, and a number", x.send(0, 2, 1, 5, 2), 5);
        CHECK.refused(x, "too few bins, and a number", x.send(0, 2, 1, 1, 2), 4);
        CHECK.refused(x, "too few orders, and a number", x.send(0, 1, 1, 2, 2), 4);
        row(x, 0, 31, 0);
        row(x, 1, 31, 0);
        row(x, 2, 101, 0, 0);
        CHECK.refused(x, "too few costs, and a number", x.send(0, 2, 1, 2, 2), 4);
        row(x, 2, 101, 0, 0, 0);
        CHECK.refused(x, "a number", x.send(0, 2, 1, 2, 2), 5);
        row(x, 0, 1, 0);
        CHECK.refused(x, "a number of orders, and too little", x.send(0, 2, 1, 2, 2), 5);
        row(x, 1, 2, 0);
        CHECK.refused(x, "a number of costs, and too little", x.send(0, 2, 1, 2, 2), 5);
        row(x, 2, 100, 0, 0, 0);
        CHECK.refused(x, "too little", x.send(0, 2, 1, 2, 2), 9);
        row(x, 1, 1, 0);
        CHECK.due(x, "none of these", x.send(0, 2, 1, 2, 2), 100, 0);
        row(x, 3);
        CHECK.refused(x, "an empty TRAY", x.send(3, 1, 1, 1, 2), 4);
        CHECK.refused(x, "an empty TRAY", x.send(0, 1, 3, 1, 2), 4);
        CHECK.refused(x, "an empty TRAY", x.send(0, 1, 1, 1, 3), 4);
        CHECK.due(x, "one TRAY for all", x.send(1, 1, 1, 1, 1), 1, 0);
    }

    private static void tooLittle() {
        for (int lack = -1; lack <= 1; lack++) {
            PrairiePool x = orders(5, 4);
            row(x, 0, 30, 30, 0, 30, 29);
            row(x, 1, 30, 30, 29 + lack, 30);
            long got = x.send(0, 5, 1, 4, 2);
            CHECK.due(x, "it lacks " + lack, got, lack > 0 ? -1 : 0, lack > 0 ? 9 : 0);
        }
        PrairiePool x = orders(1, 1);
        x.write(1, 0, 1);
        CHECK.refused(x, "one of none", x.send(0, 1, 1, 1, 2), 9);
        x.write(0, 0, 1);
        CHECK.due(x, "one of one", x.send(0, 1, 1, 1, 2), 0, 0);
        // Those of bins and orders that are not asked do not count.
        PrairiePool y = orders(2, 2);
        row(y, 0, 1, 30);
        row(y, 1, 2, 30);
        CHECK.refused(y, "one bin", y.send(0, 1, 1, 1, 2), 9);
        CHECK.due(y, "two bins", y.send(0, 2, 1, 1, 2), 0, 0);
        CHECK.refused(y, "two orders", y.send(0, 2, 1, 2, 2), 9);
    }

    private static void least() {
        PrairiePool x = new PrairiePool();
        // What is not wanted stays, at no cost.
        row(x, 0, 30, 30);
        row(x, 1, 1);
        row(x, 2, 100, 99);
        CHECK.due(x, "one bushel", x.send(0, 2, 1, 1, 2), 99, 0);
        // All must be filled, by the dear way too.
        row(x, 0, 1, 30);
        row(x, 1, 3);
        row(x, 2, 0, 100);
        CHECK.due(x, "one for nothing, two for 100", x.send(0, 2, 1, 1, 2), 200, 0);
        // The cheapest way of each order is not the best of all.
        row(x, 0, 1, 1);
        row(x, 1, 1, 1);
        row(x, 2, 0, 1, 1, 100);
        CHECK.due(x, "crosswise", x.send(0, 2, 1, 2, 2), 2, 0);
        row(x, 0, 30, 30, 30, 30, 30);
        row(x, 1, 30, 30, 30, 30);
        row(x, 2, 1, 2, 3, 4, 2, 3, 4, 5, 3, 4, 5, 6, 4, 5, 6, 7, 5, 6, 7, 8);
        CHECK.due(x, "the dearest bin stays full", x.send(0, 5, 1, 4, 2), 30 * (1 + 3 + 5 + 7), 0);
        row(x, 0, 0, 0, 0, 0, 30);
        row(x, 1, 0, 0, 0, 30);
        CHECK.due(x, "one way alone", x.send(0, 5, 1, 4, 2), 240, 0);
        // Each way, one by one: of 3 bins to 3 orders, with one bushel each.
        row(x, 0, 1, 1, 1);
        row(x, 1, 1, 1, 1);
        row(x, 2, 10, 4, 7, 5, 8, 3, 9, 6, 11);
        CHECK.due(x, "4 + 3 + 9, or 5 + 6 + 7, or 10 + 3 + 6", x.send(0, 3, 1, 3, 2), 16, 0);
        // A TRAY of each sort.
        for (int sort = 0; sort < 4; sort++) {
            PrairiePool y = new PrairiePool();
            for (int tray = 0; tray < 3; tray++) {
                y.tray(tray, (sort + tray) % 4, 1);
                y.write(tray, 0, tray == 2 ? 100 : 30);
            }
            CHECK.due(y, "sorts may be unlike", y.send(0, 1, 1, 1, 2), 3000, 0);
        }
    }
}
