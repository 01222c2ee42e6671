/** Promises 1 to 6: a new object, STATUS, TRAYS. */
public final class TraysTest {
    private static final Check CHECK = new Check("TraysTest");

    public static void main(String[] args) {
        newObject();
        makingTrays();
        cutting();
        places();
        statusStays();
        pouring();
        pouringOrder();
        CHECK.end();
    }

    private static void newObject() {
        PrairiePool x = new PrairiePool();
        CHECK.due("status()", x.status(), 0);
        for (int tray = 0; tray < 4; tray++) {
            CHECK.refused(x, "read of a MISSING tray", x.read(tray, 0), 3);
        }
        CHECK.refused(x, "cost(0, 0)", x.cost(0, 0), 2);
        CHECK.refused(x, "turns(0, 1, 0)", x.turns(0, 1, 0), 2);
        CHECK.refused(x, "grade(0, 0)", x.grade(0, 0), 2);
        CHECK.refused(x, "breach(0)", x.breach(0), 8);
        CHECK.refused(x, "turned(0)", x.turned(0), 8);
        CHECK.refused(x, "acts(1, 0) of an empty tape", x.acts(1, 0), 5);
        CHECK.due("fault(0)", x.fault(0), -1);
        CHECK.due("fault(1)", x.fault(1), -1);
        CHECK.due(x, "hangs(0)", x.hangs(0), -1, 0);
        CHECK.due("feed", x.feed(0, 0, 0, 0, 0), 20);
        // STEP 10, LAG 2.
        x.farm(0, 1, 0);
        x.elevator(0, 1000);
        x.load(0, 0, 1, 0, 5, 5);
        x.price(3, 90);
        CHECK.due("alone(0, 0, 5)", x.alone(0, 0, 5), 40);
    }

    private static void makingTrays() {
        PrairiePool x = new PrairiePool();
        CHECK.due(x, "tray(0, 0, 0)", x.tray(0, 0, 0), true, 0);
        CHECK.refused(x, "read(0, 0) of none", x.read(0, 0), 4);
        CHECK.due(x, "tray(3, 3, 40)", x.tray(3, 3, 40), true, 0);
        CHECK.due(x, "read(3, 39)", x.read(3, 39), 0, 0);
        CHECK.refused(x, "read(3, 40)", x.read(3, 40), 4);
        CHECK.refused(x, "tray(4, 0, 1)", x.tray(4, 0, 1), 1);
        CHECK.refused(x, "tray(-1, 0, 1)", x.tray(-1, 0, 1), 1);
        CHECK.refused(x, "tray(0, 4, 1)", x.tray(0, 4, 1), 1);
        CHECK.refused(x, "tray(0, -1, 99)", x.tray(0, -1, 99), 1);
        CHECK.refused(x, "tray(0, 0, 41)", x.tray(0, 0, 41), 5);
        CHECK.refused(x, "tray(0, 0, -1)", x.tray(0, 0, -1), 6);
        CHECK.refused(x, "tray of MIN", x.tray(0, 0, Integer.MIN_VALUE), 6);
        CHECK.refused(x, "tray of MAX", x.tray(Integer.MAX_VALUE, 0, 1), 1);
        // A TRAY that is made anew is all 0, and of the new sort.
        x.write(3, 7, 1L << 40);
        CHECK.due("read(3, 7)", x.read(3, 7), 1L << 40);
        x.tray(3, 0, 8);
        CHECK.due("read(3, 7) anew", x.read(3, 7), 0);
        CHECK.refused(x, "read(3, 8) anew", x.read(3, 8), 4);
        x.write(3, 7, 300);
        CHECK.due("read(3, 7) of 8 bits", x.read(3, 7), 44);
        // One that is refused leaves the TRAY as it was.
        x.tray(3, 1, 41);
        CHECK.due("read(3, 7) kept", x.read(3, 7), 44);
        // Nothing of the old numbers shines through, neither here nor in the TRAY ahead.
        for (int tray = 2; tray < 4; tray++) {
            x.tray(tray, 3, 40);
            for (int place = 0; place < 40; place++) {
                x.write(tray, place, 100 * tray + place);
            }
        }
        x.tray(3, 3, 5);
        x.tray(3, 3, 40);
        for (int place = 0; place < 40; place++) {
            CHECK.due("read(3, " + place + ")", x.read(3, place), 0);
            CHECK.due("read(2, " + place + ")", x.read(2, place), 200 + place);
        }
    }

    private static void cutting() {
        PrairiePool x = new PrairiePool();
        long[] written = {0, 1, -1, 127, 128, 255, 256, 32767, 32768, 65535, 1L << 31, (1L << 31) - 1,
            1L << 32, Long.MAX_VALUE, Long.MIN_VALUE, -129, -32769, -2147483649L, 0x123456789abcdefL};
        for (int sort = 0; sort < 4; sort++) {
            x.tray(sort, sort, 2);
            for (long v : written) {
                int bits = 8 << sort;
                long want = v << (64 - bits) >> (64 - bits);
                CHECK.due(x, "write", x.write(sort, 1, v), true, 0);
                CHECK.due(x, "read of sort " + sort + " of " + v, x.read(sort, 1), want, 0);
                CHECK.due("its neighbour", x.read(sort, 0), 0);
            }
        }
    }

    private static void places() {
        PrairiePool x = new PrairiePool();
        CHECK.refused(x, "write(-1, 0, 1)", x.write(-1, 0, 1), 1);
        CHECK.refused(x, "write(4, 0, 1)", x.write(4, 0, 1), 1);
        CHECK.refused(x, "write(0, 0, 1)", x.write(0, 0, 1), 3);
        CHECK.refused(x, "write(0, -1, 1)", x.write(0, -1, 1), 3);
        x.tray(0, 2, 3);
        CHECK.refused(x, "write(0, 3, 1)", x.write(0, 3, 1), 4);
        CHECK.refused(x, "write(0, -1, 1)", x.write(0, -1, 1), 4);
        CHECK.refused(x, "write at MAX", x.write(0, Integer.MAX_VALUE, 1), 4);
        CHECK.refused(x, "write at MIN", x.write(0, Integer.MIN_VALUE, 1), 4);
        CHECK.refused(x, "read(4, 0)", x.read(4, 0), 1);
        CHECK.refused(x, "read(-1, 0)", x.read(-1, 0), 1);
        CHECK.refused(x, "read(1, 0)", x.read(1, 0), 3);
        CHECK.refused(x, "read(0, 3)", x.read(0, 3), 4);
        CHECK.refused(x, "read(0, -1)", x.read(0, -1), 4);
        x.write(0, 2, -1);
        CHECK.due(x, "read of -1", x.read(0, 2), -1, 0);
        // The TRAY behind it is not touched.
        x.tray(1, 2, 3);
        CHECK.due(x, "read(1, 0)", x.read(1, 0), 0, 0);
    }

    private static void statusStays() {
        PrairiePool x = new PrairiePool();
        x.read(9, 9);
        CHECK.due("status()", x.status(), 1);
        CHECK.due("status() again", x.status(), 1);
        x.fault(0);
        CHECK.due("status() behind fault", x.status(), 1);
        x.fault(7);
        x.feed(1, 2, 3, 4, 5);
        CHECK.due("status() behind feed", x.status(), 1);
        for (int i = 0; i < 30; i++) {
            x.feed(1, 2, 3, 4, 5);
        }
        CHECK.due("status() behind a feed too many", x.status(), 1);
        x.tray(0, 0, 1);
        CHECK.due("status() behind tray", x.status(), 0);
    }

    private static void fill(PrairiePool x, int tray, int sort, int many) {
        x.tray(tray, sort, many);
        for (int i = 0; i < many; i++) {
            x.write(tray, i, tray * 100 + i);
        }
    }

    private static void row(PrairiePool x, int tray, long... want) {
        for (int i = 0; i < want.length; i++) {
            CHECK.due("read(" + tray + ", " + i + ")", x.read(tray, i), want[i]);
        }
    }

    private static void pouring() {
        PrairiePool x = new PrairiePool();
        fill(x, 0, 2, 6);
        fill(x, 1, 2, 6);
        CHECK.due(x, "pour(0, 1, 1, 2, 3)", x.pour(0, 1, 1, 2, 3), true, 0);
        row(x, 1, 100, 101, 1, 2, 3, 105);
        row(x, 0, 0, 1, 2, 3, 4, 5);
        // Within one TRAY, as they were, either way.
        CHECK.due(x, "pour(0, 0, 0, 1, 5)", x.pour(0, 0, 0, 1, 5), true, 0);
        row(x, 0, 0, 0, 1, 2, 3, 4);
        CHECK.due(x, "pour(0, 2, 0, 0, 4)", x.pour(0, 2, 0, 0, 4), true, 0);
        row(x, 0, 1, 2, 3, 4, 3, 4);
        CHECK.due(x, "pour of all", x.pour(1, 0, 0, 0, 6), true, 0);
        row(x, 0, 100, 101, 1, 2, 3, 105);
        CHECK.due(x, "pour of none", x.pour(1, 0, 0, 0, 0), true, 0);
        CHECK.due(x, "pour of none at the end", x.pour(1, 6, 0, 6, 0), true, 0);
        CHECK.refused(x, "pour of none behind the end", x.pour(1, 7, 0, 0, 0), 4);
        row(x, 0, 100, 101, 1, 2, 3, 105);
        for (int sort = 0; sort < 4; sort++) {
            x.tray(2, sort, 3);
            x.tray(3, sort, 3);
            x.write(2, 0, -1);
            x.write(2, 2, 7);
            CHECK.due(x, "pour of sort " + sort, x.pour(2, 0, 3, 0, 3), true, 0);
            row(x, 3, -1, 0, 7);
        }
    }

    private static void pouringOrder() {
        PrairiePool x = new PrairiePool();
        fill(x, 0, 2, 4);
        fill(x, 1, 2, 2);
        fill(x, 2, 1, 4);
        CHECK.refused(x, "pour from no TRAY", x.pour(4, 0, 3, 0, -1), 1);
        CHECK.refused(x, "pour to no TRAY", x.pour(3, 0, -1, 0, -1), 1);
        CHECK.refused(x, "pour from a MISSING one", x.pour(3, 0, 2, 0, -1), 3);
        CHECK.refused(x, "pour to a MISSING one", x.pour(2, 0, 3, 0, -1), 3);
        CHECK.refused(x, "pour of unlike sorts", x.pour(0, 9, 2, 9, -1), 11);
        CHECK.refused(x, "pour of less than none", x.pour(0, 9, 1, 9, -1), 6);
        CHECK.refused(x, "pour from -1", x.pour(0, -1, 1, 0, 1), 4);
        CHECK.refused(x, "pour to -1", x.pour(0, 0, 1, -1, 1), 4);
        CHECK.refused(x, "pour of too many there", x.pour(0, 0, 1, 0, 3), 4);
        CHECK.refused(x, "pour of too many here", x.pour(1, 0, 0, 0, 3), 4);
        CHECK.refused(x, "pour of MAX", x.pour(0, 1, 1, 1, Integer.MAX_VALUE), 4);
        CHECK.refused(x, "pour from MAX", x.pour(0, Integer.MAX_VALUE, 1, 0, 1), 4);
        CHECK.refused(x, "pour to MAX", x.pour(0, 0, 1, Integer.MAX_VALUE, 1), 4);
        row(x, 0, 0, 1, 2, 3);
        row(x, 1, 100, 101);
    }
}
