import java.util.Arrays;

/** Part 3 of the document and promises 21 to 26: a test of its own for each sentence that names an edge. */
public final class EdgesOfPaidTest {
    private static final Check CHECK = new Check("EdgesOfPaidTest");
    private static final int MIN = Integer.MIN_VALUE;
    private static final int MAX = Integer.MAX_VALUE;

    public static void main(String[] args) {
        CHECK.says("CAME is what SALES of it brought in (bushels taken times pence)", EdgesOfPaidTest::came);
        CHECK.says("KEPT the part held (rounded down)", EdgesOfPaidTest::kept);
        CHECK.says("BROUGHT are NET bushels of LOADS of that GRADE and YEAR, less those TURNED away",
                EdgesOfPaidTest::brought);
        CHECK.says("A FARM's FIRST is the first payment times what it BROUGHT", EdgesOfPaidTest::firsts);
        CHECK.says("What is left of CAME is PARTED among FARMS by what they BROUGHT (rounded down, what is left by one"
                + " to the greatest rests, of like ones the lesser FARM", EdgesOfPaidTest::parted);
        CHECK.says("nothing, if nobody BROUGHT any", EdgesOfPaidTest::nobodyBrought);
        CHECK.says("LAST of a FARM: over all GRADES what was PARTED to it less its FIRST",
                EdgesOfPaidTest::lastOverGrades);
        CHECK.says("LAST of a FARM; STATUS tells NONE from -1", EdgesOfPaidTest::lastOfMinusOne);
        CHECK.says("If LAST of all FARMS together is below 0, the YEAR is BELOW by so much", EdgesOfPaidTest::below);
        CHECK.says("of this the state stands for so many of each 1,000 (rounded down)", EdgesOfPaidTest::stoodFor);
        CHECK.says("OWED is the rest, by each FARM with a LAST below 0, by how much it is below (PARTED likewise among"
                + " these)", EdgesOfPaidTest::owed);
        CHECK.says("what 0: CAME, 1: KEPT, 2: BROUGHT by all (2; 5)", EdgesOfPaidTest::paidAsked);
        CHECK.says("What 0: by how much a YEAR is BELOW (0: it is not), 1: what the state stands for (5)",
                EdgesOfPaidTest::belowAsked);
        CHECK.says("CARS by turns in a WEEK, n (1 to 20)", EdgesOfPaidTest::cars);
        CHECK.says("asked anew for each car: cars: how many it has in this WEEK so far", EdgesOfPaidTest::askedAnew);
        CHECK.says("waits: bushels in its BINS, all GRADES and YEARS, as known by that WEEK, less 1,000 for each of its"
                + " cars so far, 0 at least", EdgesOfPaidTest::waits);
        CHECK.says("of those that have some waits; of several the lesser; none if nobody has",
                EdgesOfPaidTest::ofThoseThatWait);
        CHECK.end();
    }

    private static PrairiePool pool(int farms, int room) {
        PrairiePool x = new PrairiePool();
        for (int i = 0; i < farms; i++) {
            x.farm(0, 1, 0);
        }
        x.elevator(0, room);
        return x;
    }

    // So many bushels of each FARM in turn, of GRADE 5.
    private static PrairiePool farms(int... bushels) {
        PrairiePool x = pool(bushels.length, 1000000);
        for (int farm = 0; farm < bushels.length; farm++) {
            if (bushels[farm] > 0) {
                x.load(farm, 0, bushels[farm], 0, 0, 0);
            }
        }
        return x;
    }

    private static void sell(PrairiePool x, int grade, int bushels, int pence) {
        x.car(0, 0, grade, 0, bushels, 0, 0);
        x.sale(0, grade, 0, bushels, pence, 0, 0);
    }

    private static void came() {
        PrairiePool x = farms(10);
        CHECK.due(x, "without SALES", x.paid(0, 5, 0, 0), 0, 0);
        x.car(0, 0, 5, 0, 10, 0, 0);
        CHECK.due(x, "at the PORT it has brought nothing", x.paid(0, 5, 0, 0), 0, 0);
        x.sale(0, 5, 0, 3, 1000, 0, 0);
        CHECK.due(x, "3 for 1,000", x.paid(0, 5, 0, 0), 3000, 0);
        x.sale(0, 5, 0, 3, 0, 0, 0);
        CHECK.due(x, "3 for nothing", x.paid(0, 5, 0, 0), 3000, 0);
        x.sale(0, 5, 0, 5, 10, 0, 0);
        CHECK.due(x, "4 of 5: those taken count", x.paid(0, 5, 0, 0), 3040, 0);
        x.sale(0, 5, 0, 5, 10, 0, 0);
        CHECK.due(x, "none of 5", x.paid(0, 5, 0, 0), 3040, 0);
        for (int grade = 0; grade < 5; grade++) {
            CHECK.due(x, "of GRADE " + grade, x.paid(0, grade, 0, 0), 0, 0);
        }
        // The YEAR is that of the wheat, not of the SALE.
        PrairiePool y = pool(1, 1000000);
        y.load(0, 0, 10, 0, 51, 51);
        y.car(0, 1, 5, 0, 10, 519, 519);
        y.sale(1, 5, 0, 10, 7, 519, 519);
        CHECK.due(y, "in YEAR 0", y.paid(0, 5, 0, 519), 70, 0);
        CHECK.due(y, "in YEAR 9", y.paid(9, 5, 0, 519), 0, 0);
        CHECK.due(y, "a WEEK ahead", y.paid(0, 5, 0, 518), 0, 0);
    }

    private static void kept() {
        int[][] rows = {{1, 999, 0}, {1, 1000, 1}, {999, 1, 0}, {1000, 1, 1}, {1001, 1, 1}, {1999, 1, 1}, {2000, 1, 2},
            {3, 333, 0}, {3, 334, 1}, {7, 500, 3}};
        for (int[] row : rows) {
            PrairiePool x = farms(row[0]);
            sell(x, 5, row[0], 1);
            Check.acts(x, "held:" + row[1] + ";", 0);
            CHECK.due("KEPT of " + row[0] + " with " + row[1], x.paid(0, 5, 1, 0), row[2]);
            CHECK.due("LAST of " + row[0] + " with " + row[1], x.last(0, 0, 0), row[0] - row[2]);
        }
        // Rounded GRADE by GRADE, not all together.
        PrairiePool x = farms(1, 1);
        x.grading(0, 0, 4, 0);
        sell(x, 4, 1, 1);
        sell(x, 5, 1, 1);
        Check.acts(x, "held:500;", 0);
        CHECK.due("KEPT of GRADE 4", x.paid(0, 4, 1, 0), 0);
        CHECK.due("KEPT of GRADE 5", x.paid(0, 5, 1, 0), 0);
    }

    private static void brought() {
        PrairiePool x = pool(2, 100);
        CHECK.due("nothing", x.paid(0, 5, 2, 0), 0);
        x.load(0, 0, 10, 1000, 0, 0);
        CHECK.due("all DOCKED", x.paid(0, 5, 2, 0), 0);
        x.load(0, 0, 99, 10, 0, 0);
        CHECK.due("none of 99 DOCKED", x.paid(0, 5, 2, 0), 99);
        x.load(1, 0, 1, 0, 0, 0);
        CHECK.due("the last that has ROOM", x.paid(0, 5, 2, 0), 100);
        x.load(1, 0, 1, 0, 0, 0);
        CHECK.due("the first that has not", x.paid(0, 5, 2, 0), 100);
        x.grading(1, 0, 0, 3);
        CHECK.due("of GRADE 0", x.paid(0, 0, 2, 3), 99);
        CHECK.due("of GRADE 5", x.paid(0, 5, 2, 3), 1);
        CHECK.due("of GRADE 5 a WEEK ahead", x.paid(0, 5, 2, 2), 100);
        x.spoil(0, 0, 0, 99, 51, 51);
        x.load(1, 0, 5, 0, 51, 51);
        x.load(1, 0, 6, 0, 52, 52);
        CHECK.due("of YEAR 0", x.paid(0, 5, 2, 52), 6);
        CHECK.due("of YEAR 1", x.paid(1, 5, 2, 52), 6);
        CHECK.due("what spoilt was BROUGHT", x.paid(0, 0, 2, 52), 99);
        // All twenty FARMS.
        int[] ones = new int[20];
        Arrays.fill(ones, 1);
        CHECK.due("by all", farms(ones).paid(0, 5, 2, 0), 20);
    }

    private static void firsts() {
        PrairiePool x = farms(0, 1, 10000);
        x.load(2, 0, 10000, 0, 0, 0);
        Check.acts(x, "first:1000;", 0);
        CHECK.due(x, "who BROUGHT none", x.first(0, 0, 0), 0, 0);
        CHECK.due(x, "who BROUGHT one", x.first(1, 0, 0), 1000, 0);
        CHECK.due(x, "who BROUGHT 20,000", x.first(2, 0, 0), 20000000L, 0);
        CHECK.due(x, "in another YEAR", x.first(2, 1, 0), 0, 0);
        Check.acts(x, "first:grade;", 0);
        x.grading(1, 0, 0, 0);
        CHECK.due(x, "of all GRADES together", x.first(2, 0, 0), 50000, 0);
    }

    private static void parted() {
        // 1 among 2 alike.
        PrairiePool x = farms(5, 5);
        sell(x, 5, 1, 1);
        CHECK.due("the lesser FARM", x.last(0, 0, 0), 1);
        CHECK.due("the other", x.last(1, 0, 0), 0);
        // 10 by 1, 1 and 5: 1 rest 3, 1 rest 3, 7 rest 1: one to FARM 0.
        PrairiePool y = farms(1, 1, 5);
        sell(y, 5, 5, 2);
        CHECK.due("rest 3", y.last(0, 0, 0), 2);
        CHECK.due("rest 3 of a greater FARM", y.last(1, 0, 0), 1);
        CHECK.due("rest 1", y.last(2, 0, 0), 7);
        // 5 by 2, 0, 7 and 3: 0 rest 10, none, 2 rest 11, 1 rest 3: two are left.
        PrairiePool z = farms(2, 0, 7, 3);
        sell(z, 5, 5, 1);
        CHECK.due("rest 10", z.last(0, 0, 0), 1);
        CHECK.due("who BROUGHT none", z.last(1, 0, 0), 0);
        CHECK.due("rest 11", z.last(2, 0, 0), 3);
        CHECK.due("rest 3", z.last(3, 0, 0), 1);
        // By what they BROUGHT, not by what was sold of theirs: the CAR's rests went otherwise.
        PrairiePool w = farms(3, 3);
        sell(w, 5, 1, 100);
        CHECK.due("sold of FARM 0 alone", w.sum(0, 2, 0), 1);
        CHECK.due("half to the other", w.last(1, 0, 0), 50);
    }

    private static void nobodyBrought() {
        PrairiePool x = pool(2, 10);
        x.sale(0, 3, 0, 100, 1000, 0, 0);
        CHECK.due(x, "CAME", x.paid(0, 3, 0, 0), 0, 0);
        CHECK.due(x, "LAST", x.last(0, 0, 0), 0, 0);
        CHECK.due(x, "BELOW", x.below(0, 0, 0), 0, 0);
        CHECK.due(x, "OWED", x.owed(1, 0, 0), 0, 0);
        x.load(0, 0, 10, 1000, 0, 0);
        CHECK.due(x, "LAST of who BROUGHT nothing NET", x.last(0, 0, 0), 0, 0);
        // All is TURNED away.
        x.load(1, 0, 10, 0, 0, 0);
        x.load(0, 0, 10, 0, 60, 60);
        CHECK.due(x, "BROUGHT in YEAR 1", x.paid(1, 5, 2, 60), 0, 0);
        Check.acts(x, "first:1000;", 0);
        CHECK.due(x, "LAST in YEAR 1", x.last(0, 1, 60), 0, 0);
        CHECK.due(x, "BELOW in YEAR 1", x.below(1, 0, 60), 0, 0);
        PrairiePool y = new PrairiePool();
        CHECK.due(y, "where nobody is", y.below(0, 0, 0), 0, 0);
    }

    private static void lastOverGrades() {
        PrairiePool x = pool(1, 1000000);
        for (int grade = 0; grade < 6; grade++) {
            x.load(0, 0, 10, 0, 0, 0);
            x.grading(grade, 0, grade, 0);
        }
        for (int grade = 0; grade < 6; grade++) {
            sell(x, grade, 10, 1 << grade);
        }
        CHECK.due("of all six", x.last(0, 0, 0), 630);
        Check.acts(x, "first:grade+1;", 0);
        CHECK.due("FIRST of all six", x.first(0, 0, 0), 210);
        CHECK.due("less FIRST", x.last(0, 0, 0), 420);
        Check.acts(x, "held:if grade=5 then 1000 else 0;", 0);
        CHECK.due("GRADE 5 is held back", x.last(0, 0, 0), 310);
    }

    private static void lastOfMinusOne() {
        PrairiePool x = farms(1);
        Check.acts(x, "first:1;", 0);
        CHECK.due(x, "LAST", x.last(0, 0, 0), -1, 0);
        CHECK.refused(x, "of no FARM", x.last(1, 0, 0), 2);
        CHECK.refused(x, "in no YEAR", x.last(0, 10, 0), 5);
        CHECK.refused(x, "by no WEEK", x.last(0, 0, 520), 5);
    }

    private static void below() {
        // 10 BROUGHT, sold for 1, 2 or 3 each, first payment 2.
        for (int pence = 1; pence <= 3; pence++) {
            PrairiePool x = farms(10);
            sell(x, 5, 10, pence);
            Check.acts(x, "first:2;stand:1000;", 0);
            CHECK.due("LAST", x.last(0, 0, 0), 10 * pence - 20);
            CHECK.due(x, "BELOW", x.below(0, 0, 0), pence == 1 ? 10 : 0, 0);
            CHECK.due(x, "the state", x.below(0, 1, 0), pence == 1 ? 10 : 0, 0);
        }
        // By one, and by none.
        PrairiePool x = farms(19);
        sell(x, 5, 18, 1);
        Check.acts(x, "first:1;", 0);
        CHECK.due(x, "BELOW by one", x.below(0, 0, 0), 1, 0);
        sell(x, 5, 1, 1);
        CHECK.due(x, "BELOW by none", x.below(0, 0, 0), 0, 0);
        // Together: one FARM is as much above as the other is below, or one more.
        for (int more = 0; more < 2; more++) {
            PrairiePool y = farms(10 + more, 10);
            y.grading(1, 0, 0, 0);
            sell(y, 0, 10, 4);
            Check.acts(y, "first:2;", 0);
            CHECK.due("LAST of 0", y.last(0, 0, 0), -20 - 2 * more);
            CHECK.due("LAST of 1", y.last(1, 0, 0), 20);
            CHECK.due(y, "BELOW", y.below(0, 0, 0), 2 * more, 0);
            CHECK.due(y, "OWED", y.owed(0, 0, 0), 2 * more, 0);
            CHECK.due(y, "OWED by who is above", y.owed(1, 0, 0), 0, 0);
        }
    }

    private static void stoodFor() {
        int[][] rows = {{1, 999, 0}, {1, 1000, 1}, {999, 1, 0}, {1000, 1, 1}, {1999, 1, 1}, {2000, 1, 2}, {3, 333, 0},
            {3, 334, 1}, {7, 500, 3}};
        for (int[] row : rows) {
            PrairiePool x = farms(row[0]);
            Check.acts(x, "first:1;stand:" + row[1] + ";", 0);
            CHECK.due("of " + row[0] + " with " + row[1], x.below(0, 1, 0), row[2]);
            CHECK.due("OWED", x.owed(0, 0, 0), row[0] - row[2]);
        }
    }

    private static void owed() {
        // By how much each is below, which is not what it BROUGHT: GRADES 0 and 5 have other first payments.
        PrairiePool x = farms(10, 10, 10);
        x.grading(0, 0, 0, 0);
        x.grading(1, 0, 1, 0);
        sell(x, 1, 10, 1);
        Check.acts(x, "first:if grade=0 then 6 else if grade=1 then 0 else 2;stand:100;", 0);
        CHECK.due("LAST of 0", x.last(0, 0, 0), -60);
        CHECK.due("LAST of 1", x.last(1, 0, 0), 10);
        CHECK.due("LAST of 2", x.last(2, 0, 0), -20);
        CHECK.due("BELOW", x.below(0, 0, 0), 70);
        CHECK.due("the state", x.below(0, 1, 0), 7);
        // 63 by 60 and 20: 47 rest 20, 15 rest 60.
        CHECK.due("OWED by 0", x.owed(0, 0, 0), 47);
        CHECK.due("OWED by 1, who is above", x.owed(1, 0, 0), 0);
        CHECK.due("OWED by 2, with the greater rest", x.owed(2, 0, 0), 16);
        // 1 by 1 and 1: like rests.
        PrairiePool y = farms(1, 1);
        Check.acts(y, "first:1;stand:500;", 0);
        CHECK.due("BELOW", y.below(0, 0, 0), 2);
        CHECK.due("OWED by the lesser FARM", y.owed(0, 0, 0), 1);
        CHECK.due("OWED by the other", y.owed(1, 0, 0), 0);
        // Who is at 0 owes nothing, and the last of twenty may.
        int[] bushels = new int[20];
        bushels[19] = 3;
        PrairiePool z = farms(bushels);
        Check.acts(z, "first:5;", 0);
        for (int farm = 0; farm < 20; farm++) {
            CHECK.due("OWED by " + farm, z.owed(farm, 0, 0), farm == 19 ? 15 : 0);
        }
        CHECK.refused(z, "OWED by 20", z.owed(20, 0, 0), 2);
        // Asked at first, without last or below ahead of it.
        PrairiePool u = farms(10, 30);
        u.grading(1, 0, 3, 0);
        Check.acts(u, "first:if grade=3 then 1 else 6;stand:0;", 0);
        CHECK.due("OWED by 0: 60 of 90", u.owed(0, 0, 0), 60);
        CHECK.due("OWED by 1: 30 of 90", u.owed(1, 0, 0), 30);
    }

    private static void paidAsked() {
        PrairiePool x = farms(10);
        sell(x, 5, 4, 5);
        Check.acts(x, "held:100;", 0);
        CHECK.due(x, "CAME", x.paid(0, 5, 0, 0), 20, 0);
        CHECK.due(x, "KEPT", x.paid(0, 5, 1, 0), 2, 0);
        CHECK.due(x, "BROUGHT", x.paid(0, 5, 2, 0), 10, 0);
        for (int what : new int[] {-1, 3, MIN, MAX}) {
            CHECK.refused(x, "what " + what, x.paid(0, 5, what, 0), 5);
            CHECK.refused(x, "what " + what + " of no GRADE", x.paid(0, 6, what, 0), 2);
        }
    }

    private static void belowAsked() {
        PrairiePool x = farms(10);
        CHECK.due(x, "it is not BELOW", x.below(0, 0, 0), 0, 0);
        CHECK.due(x, "so the state stands for nothing", x.below(0, 1, 0), 0, 0);
        Check.acts(x, "first:1;stand:300;", 0);
        CHECK.due(x, "BELOW", x.below(0, 0, 0), 10, 0);
        CHECK.due(x, "the state", x.below(0, 1, 0), 3, 0);
        for (int what : new int[] {-1, 2, MIN, MAX}) {
            CHECK.refused(x, "what " + what, x.below(0, what, 0), 5);
        }
        for (int year : new int[] {-1, 10, MIN, MAX}) {
            CHECK.refused(x, "in " + year, x.below(year, 0, 0), 5);
        }
        for (int week : new int[] {-1, 520, MIN, MAX}) {
            CHECK.refused(x, "by " + week, x.below(0, 0, week), 5);
        }
        CHECK.due(x, "in YEAR 9 by the last WEEK", x.below(9, 0, 519), 0, 0);
    }

    // ---- CARS by turns

    private static PrairiePool waiting(int... bushels) {
        PrairiePool x = new PrairiePool();
        x.farm(0, 1, 0);
        for (int i = 0; i < bushels.length; i++) {
            x.elevator(i % 6, 1000000);
            for (int left = bushels[i]; left > 0; left -= 10000) {
                x.load(0, i, Math.min(left, 10000), 0, 0, 0);
            }
        }
        return x;
    }

    private static void turns(PrairiePool x, int n, int... want) {
        for (int elevator = 0; elevator < want.length; elevator++) {
            CHECK.due(x, n + " cars: ELEVATOR " + elevator, x.turns(0, n, elevator), want[elevator], 0);
        }
    }

    private static void cars() {
        PrairiePool x = waiting(30000);
        turns(x, 1, 1);
        turns(x, 19, 19);
        turns(x, 20, 20);
        for (int n : new int[] {0, -1, 21, MIN, MAX}) {
            CHECK.refused(x, n + " cars", x.turns(0, n, 0), 5);
            CHECK.refused(x, n + " cars of no ELEVATOR", x.turns(0, n, 1), 2);
        }
        for (int week : new int[] {-1, 520, MIN, MAX}) {
            CHECK.refused(x, "in " + week, x.turns(week, 1, 0), 5);
        }
        CHECK.due(x, "in the last WEEK", x.turns(519, 20, 0), 20, 0);
        // Asking gives no cars away.
        turns(x, 20, 20);
    }

    private static void askedAnew() {
        PrairiePool x = waiting(5000, 5000, 5000);
        Check.acts(x, "turn:0-cars;", 0);
        turns(x, 1, 1, 0, 0);
        turns(x, 2, 1, 1, 0);
        turns(x, 3, 1, 1, 1);
        turns(x, 4, 2, 1, 1);
        turns(x, 15, 5, 5, 5);
        turns(x, 16, 5, 5, 5);
        Check.acts(x, "turn:if cars=2 then 0 else 1;", 0);
        turns(x, 6, 2, 2, 2);
        turns(x, 7, 3, 2, 2);
        turns(x, 9, 5, 2, 2);
        turns(x, 10, 5, 3, 2);
        Check.acts(x, "turn:cars%2*district;", 0);
        turns(x, 4, 4, 0, 0);
        Check.acts(x, "turn:waits;", 0);
        turns(x, 4, 2, 1, 1);
    }

    private static void waits() {
        turns(waiting(999), 20, 1);
        turns(waiting(1000), 20, 1);
        turns(waiting(1001), 20, 2);
        turns(waiting(2000), 20, 2);
        turns(waiting(2001), 20, 3);
        turns(waiting(19000), 20, 19);
        turns(waiting(19001), 20, 20);
        turns(waiting(20001), 20, 20);
        // What turn is told: 1,500 at first, 500 behind a car.
        PrairiePool x = waiting(1500, 1500, 1500);
        Check.acts(x, "turn:if waits=1500 then 1 else if waits=500 then 2 else 0;", 0);
        turns(x, 2, 2, 0, 0);
        turns(x, 3, 2, 1, 0);
        turns(x, 6, 2, 2, 2);
        // All GRADES and YEARS, less what was carried, spoilt or is not KNOWN yet.
        PrairiePool y = waiting(600);
        y.grading(0, 0, 1, 0);
        y.load(0, 0, 400, 0, 60, 61);
        CHECK.due("not KNOWN", y.turns(60, 20, 0), 1);
        CHECK.due("1,000 in two BINS", y.turns(61, 20, 0), 1);
        y.load(0, 0, 1, 0, 62, 62);
        CHECK.due("1,001", y.turns(62, 20, 0), 2);
        y.spoil(0, 1, 0, 1, 63, 63);
        CHECK.due("1,000 again", y.turns(63, 20, 0), 1);
        y.car(0, 0, 5, 1, 401, 64, 64);
        y.car(0, 0, 1, 0, 599, 64, 64);
        CHECK.due("nothing", y.turns(64, 20, 0), 0);
        CHECK.due("as known by then", y.turns(62, 20, 0), 2);
    }

    private static void ofThoseThatWait() {
        turns(waiting(0), 20, 0);
        turns(waiting(0, 0, 1), 20, 0, 0, 1);
        PrairiePool x = waiting(0, 1, 1);
        Check.acts(x, "turn:9-district;", 0);
        turns(x, 1, 0, 1, 0);
        turns(x, 2, 0, 1, 1);
        turns(x, 3, 0, 1, 1);
        // A turn below 0 is a turn still.
        Check.acts(x, "turn:0-999999*9;", 0);
        turns(x, 1, 0, 1, 0);
        turns(x, 20, 0, 1, 1);
        // Of several the lesser, to the last of eight.
        PrairiePool y = waiting(1, 1, 1, 1, 1, 1, 1, 1);
        for (int n = 1; n <= 8; n++) {
            for (int elevator = 0; elevator < 8; elevator++) {
                CHECK.due("of " + n, y.turns(0, n, elevator), elevator < n ? 1 : 0);
            }
        }
    }
}
