/** Part 4 of the document and promises 27 to 35: a test of its own for each sentence that names an edge. */
public final class EdgesOfContractsTest {
    private static final Check CHECK = new Check("EdgesOfContractsTest");
    private static final int MIN = Integer.MIN_VALUE;
    private static final int MAX = Integer.MAX_VALUE;

    public static void main(String[] args) {
        CHECK.says("A FARM is SIGNED from a YEAR to a YEAR (in place of what was) (2; 5: also from behind to)",
                EdgesOfContractsTest::signed);
        CHECK.says("LET off in a YEAR, or not (at first)", EdgesOfContractsTest::letOff);
        CHECK.says("OUTSIDE, at most 60: a FARM sold so many bushels (1 to 10,000) in a WEEK at so many pence (0 to"
                + " 1,000)", EdgesOfContractsTest::outsides);
        CHECK.says("It is a BREACH, if the FARM is SIGNED and not LET off in that YEAR, and breach asked then is above"
                + " 0", EdgesOfContractsTest::isBreach);
        CHECK.says("Whether an OUTSIDE is a BREACH: 1 or 0 (8: none such)", EdgesOfContractsTest::noneSuch);
        CHECK.says("the COST of a FARM in a YEAR: breach times bushels, of all its OUTSIDE then",
                EdgesOfContractsTest::cost);
        CHECK.says("PRICES are told by WEEKS (0 to 1,000 pence; 0 at first) for GRADE 0",
                EdgesOfContractsTest::prices);
        CHECK.says("GRADE g has g times STEP less (0 to 100; 10 at first; 0 at least)", EdgesOfContractsTest::step);
        CHECK.says("the price LAG WEEKS (0 to 20; 2 at first) ahead of the LOAD's (that of WEEK 0 ahead of that), by"
                + " its GRADE as known", EdgesOfContractsTest::lag);
        CHECK.says("for each of its LOADS of a YEAR what it BROUGHT times the price", EdgesOfContractsTest::alone);
        CHECK.says("MORE: how many FARMS that BROUGHT some have more in the pool than ALONE",
                EdgesOfContractsTest::more);
        CHECK.says("BESIDE: in the pool it has FIRST and LAST of all GRADES together", EdgesOfContractsTest::beside);
        CHECK.end();
    }

    private static PrairiePool pool(int farms) {
        PrairiePool x = new PrairiePool();
        for (int i = 0; i < farms; i++) {
            x.farm(0, 1, 0);
        }
        x.elevator(0, 1000000);
        return x;
    }

    // An OUTSIDE in the first and the last WEEK of each YEAR, each a BREACH if the FARM is bound.
    private static PrairiePool allYears() {
        PrairiePool x = pool(1);
        Check.acts(x, "breach:1;", 0);
        for (int year = 0; year < 10; year++) {
            x.outside(0, year * 52, 1, 0);
            x.outside(0, year * 52 + 51, 1, 0);
        }
        return x;
    }

    private static void bound(PrairiePool x, int from, int to) {
        for (int o = 0; o < 20; o++) {
            boolean is = o / 2 >= from && o / 2 <= to;
            CHECK.due(x, "bound from " + from + " to " + to + ": OUTSIDE " + o, x.breach(o), is ? 1 : 0, 0);
        }
    }

    private static void signed() {
        PrairiePool x = allYears();
        bound(x, 10, 9);
        int[][] rows = {{0, 0}, {9, 9}, {0, 9}, {3, 5}, {4, 4}, {0, 1}, {8, 9}};
        for (int[] row : rows) {
            CHECK.due(x, "sign", x.sign(0, row[0], row[1]), true, 0);
            bound(x, row[0], row[1]);
        }
        int[][] not = {{-1, 5}, {5, -1}, {10, 10}, {0, 10}, {-1, -1}, {5, 4}, {9, 0}, {MIN, MAX}, {MAX, MIN}};
        for (int[] row : not) {
            CHECK.refused(x, "sign from " + row[0] + " to " + row[1], x.sign(0, row[0], row[1]), 5);
        }
        for (int farm : new int[] {-1, 1, MIN, MAX}) {
            CHECK.refused(x, "sign of " + farm, x.sign(farm, 5, 4), 2);
        }
        bound(x, 8, 9);
    }

    private static void letOff() {
        PrairiePool x = allYears();
        x.sign(0, 0, 9);
        for (int year = 0; year < 10; year++) {
            CHECK.due("at first not", x.breach(2 * year), 1);
            CHECK.due(x, "let", x.let(0, year, true), true, 0);
            CHECK.due("its first WEEK", x.breach(2 * year), 0);
            CHECK.due("its last WEEK", x.breach(2 * year + 1), 0);
            CHECK.due("the YEAR ahead", year == 0 ? 1 : x.breach(2 * year - 1), 1);
            CHECK.due("the YEAR behind", year == 9 ? 1 : x.breach(2 * year + 2), 1);
            CHECK.due(x, "let once more", x.let(0, year, true), true, 0);
            CHECK.due(x, "let no more", x.let(0, year, false), true, 0);
            CHECK.due("as at first", x.breach(2 * year), 1);
        }
        CHECK.due(x, "not LET off, and so again", x.let(0, 0, false), true, 0);
        for (int year : new int[] {-1, 10, MIN, MAX}) {
            CHECK.refused(x, "let in " + year, x.let(0, year, true), 5);
        }
        for (int farm : new int[] {-1, 1, MIN, MAX}) {
            CHECK.refused(x, "let of " + farm, x.let(farm, 10, true), 2);
        }
        bound(x, 0, 9);
        // LET off ahead of being SIGNED.
        PrairiePool y = allYears();
        y.let(0, 4, true);
        y.sign(0, 4, 4);
        bound(y, 10, 9);
    }

    private static void outsides() {
        PrairiePool x = pool(2);
        for (int bushels : new int[] {0, -1, 10001, MIN, MAX}) {
            CHECK.refused(x, "bushels " + bushels, x.outside(0, 0, bushels, 0), 5);
        }
        for (int pence : new int[] {-1, 1001, MIN, MAX}) {
            CHECK.refused(x, "pence " + pence, x.outside(0, 0, 1, pence), 5);
        }
        for (int week : new int[] {-1, 520, MIN, MAX}) {
            CHECK.refused(x, "in " + week, x.outside(0, week, 1, 0), 5);
        }
        for (int farm : new int[] {-1, 2, MIN, MAX}) {
            CHECK.refused(x, "of " + farm, x.outside(farm, -1, 0, -1), 2);
        }
        CHECK.due(x, "the least", x.outside(0, 0, 1, 0), 0, 0);
        CHECK.due(x, "the greatest", x.outside(1, 519, 10000, 1000), 1, 0);
        for (int i = 2; i < 60; i++) {
            CHECK.refused(x, "breach(" + i + ")", x.breach(i), 8);
            CHECK.due(x, "outside", x.outside(0, i, 1, 0), i, 0);
        }
        CHECK.refused(x, "the 61st", x.outside(0, 0, 1, 0), 7);
        CHECK.refused(x, "the 61st of no bushels", x.outside(0, 0, 0, 0), 5);
        CHECK.refused(x, "the 61st of no FARM", x.outside(2, 0, 0, 0), 2);
        CHECK.refused(x, "breach(60)", x.breach(60), 8);
        CHECK.due(x, "breach(59)", x.breach(59), 0, 0);
        // The 60th and the greatest count.
        x.sign(0, 0, 9);
        x.sign(1, 0, 9);
        Check.acts(x, "breach:if price=1000 then 1000 else if week=59 then 3 else 0;", 0);
        CHECK.due(x, "the 60th", x.cost(0, 1), 3, 0);
        CHECK.due(x, "the greatest", x.cost(1, 9), 10000000, 0);
    }

    private static void isBreach() {
        for (int pence = -1; pence <= 2; pence++) {
            PrairiePool x = pool(1);
            x.outside(0, 60, 1, 1);
            Check.acts(x, "breach:" + (pence < 0 ? "0-1" : pence) + ";", 0);
            CHECK.due(x, "not SIGNED", x.breach(0), 0, 0);
            x.sign(0, 1, 1);
            CHECK.due(x, "breach is " + pence, x.breach(0), pence > 0 ? 1 : 0, 0);
            x.let(0, 1, true);
            CHECK.due(x, "LET off", x.breach(0), 0, 0);
        }
        // Asked then: in the WEEK of the OUTSIDE, by the TEXT in force in it.
        PrairiePool x = pool(1);
        x.sign(0, 0, 9);
        x.outside(0, 59, 1, 1);
        x.outside(0, 60, 1, 1);
        Check.acts(x, "breach:1;", 60);
        CHECK.due("a WEEK ahead", x.breach(0), 0);
        CHECK.due("in its WEEK", x.breach(1), 1);
    }

    private static void noneSuch() {
        PrairiePool x = pool(1);
        for (int o : new int[] {-1, 0, 1, 59, 60, MIN, MAX}) {
            CHECK.refused(x, "breach(" + o + ") of none", x.breach(o), 8);
        }
        x.outside(0, 0, 1, 0);
        CHECK.due(x, "breach(0)", x.breach(0), 0, 0);
        CHECK.refused(x, "breach(1)", x.breach(1), 8);
        CHECK.refused(x, "breach(-1)", x.breach(-1), 8);
    }

    private static void cost() {
        PrairiePool x = pool(2);
        Check.acts(x, "breach:price;", 0);
        x.sign(0, 0, 9);
        CHECK.due(x, "without OUTSIDE", x.cost(0, 0), 0, 0);
        x.outside(0, 51, 1, 1);
        x.outside(0, 52, 10, 1);
        x.outside(0, 103, 100, 1);
        x.outside(0, 104, 1000, 1);
        x.outside(1, 60, 5000, 1);
        CHECK.due(x, "YEAR 0", x.cost(0, 0), 1, 0);
        CHECK.due(x, "YEAR 1", x.cost(0, 1), 110, 0);
        CHECK.due(x, "YEAR 2", x.cost(0, 2), 1000, 0);
        CHECK.due(x, "YEAR 9", x.cost(0, 9), 0, 0);
        CHECK.due(x, "of who is not SIGNED", x.cost(1, 1), 0, 0);
        x.sign(0, 1, 1);
        CHECK.due(x, "YEAR 0, not SIGNED then", x.cost(0, 0), 0, 0);
        CHECK.due(x, "YEAR 1, SIGNED then", x.cost(0, 1), 110, 0);
        for (int farm : new int[] {-1, 2, MIN, MAX}) {
            CHECK.refused(x, "of " + farm, x.cost(farm, 10), 2);
        }
        for (int year : new int[] {-1, 10, MIN, MAX}) {
            CHECK.refused(x, "in " + year, x.cost(0, year), 5);
        }
        // As great as it gets: 60 of 10,000 at 1,000 each.
        PrairiePool y = pool(1);
        Check.acts(y, "breach:999999;", 0);
        y.sign(0, 0, 9);
        for (int i = 0; i < 60; i++) {
            y.outside(0, 519, 10000, 0);
        }
        CHECK.due(y, "the greatest", y.cost(0, 9), 600000000L, 0);
    }

    // ---- ALONE

    private static PrairiePool graded(int week, int grade) {
        PrairiePool x = pool(1);
        x.load(0, 0, 1, 0, week, week);
        x.grading(0, 0, grade, week);
        return x;
    }

    private static void prices() {
        PrairiePool x = graded(100, 0);
        x.rules(100, 0);
        CHECK.due(x, "0 at first", x.alone(0, 1, 100), 0, 0);
        for (int pence : new int[] {1, 999, 1000, 0}) {
            CHECK.due(x, "price of " + pence, x.price(100, pence), true, 0);
            CHECK.due(x, "GRADE 0 has no less", x.alone(0, 1, 100), pence, 0);
        }
        x.price(100, 7);
        for (int pence : new int[] {-1, 1001, MIN, MAX}) {
            CHECK.refused(x, "price of " + pence, x.price(100, pence), 5);
        }
        for (int week : new int[] {-1, 520, MIN, MAX}) {
            CHECK.refused(x, "price in " + week, x.price(week, 1), 5);
        }
        x.price(99, 500);
        x.price(101, 500);
        CHECK.due(x, "that of its WEEK", x.alone(0, 1, 100), 7, 0);
        PrairiePool y = graded(0, 0);
        y.rules(0, 0);
        CHECK.due(y, "WEEK 0", y.price(0, 3), true, 0);
        CHECK.due(y, "WEEK 0", y.alone(0, 0, 0), 3, 0);
        PrairiePool z = graded(519, 0);
        z.rules(0, 0);
        CHECK.due(z, "WEEK 519", z.price(519, 4), true, 0);
        CHECK.due(z, "WEEK 519", z.alone(0, 9, 519), 4, 0);
    }

    private static void step() {
        for (int grade = 0; grade < 6; grade++) {
            PrairiePool x = graded(9, grade);
            x.price(7, 500);
            CHECK.due("STEP 10 at first", x.alone(0, 0, 9), 500 - 10 * grade);
            CHECK.due(x, "STEP 0", x.rules(0, 2), true, 0);
            CHECK.due("no less", x.alone(0, 0, 9), 500);
            CHECK.due(x, "STEP 100", x.rules(100, 2), true, 0);
            CHECK.due("100 less a GRADE", x.alone(0, 0, 9), 500 - 100 * grade);
            x.price(7, 499);
            CHECK.due("0 at least", x.alone(0, 0, 9), grade == 5 ? 0 : 499 - 100 * grade);
            x.price(7, 0);
            CHECK.due("of nothing", x.alone(0, 0, 9), 0);
            for (int step : new int[] {-1, 101, MIN, MAX}) {
                CHECK.refused(x, "STEP " + step, x.rules(step, 0), 5);
            }
            x.price(7, 501);
            CHECK.due("as it was", x.alone(0, 0, 9), 501 - 100 * grade);
        }
        // One LOAD at 0 takes nothing from another.
        PrairiePool x = graded(9, 5);
        x.load(0, 0, 1, 0, 9, 9);
        x.grading(1, 0, 0, 9);
        x.price(7, 30);
        CHECK.due("30 and 0", x.alone(0, 0, 9), 30);
    }

    private static void lag() {
        PrairiePool x = graded(100, 0);
        for (int week = 79; week <= 101; week++) {
            x.price(week, week);
        }
        CHECK.due("LAG 2 at first", x.alone(0, 1, 100), 98);
        for (int lag = 0; lag <= 20; lag++) {
            CHECK.due(x, "LAG " + lag, x.rules(10, lag), true, 0);
            CHECK.due("the price", x.alone(0, 1, 100), 100 - lag);
        }
        for (int lag : new int[] {-1, 21, MIN, MAX}) {
            CHECK.refused(x, "LAG " + lag, x.rules(0, lag), 5);
        }
        CHECK.due("as it was", x.alone(0, 1, 100), 80);
        for (int week = 0; week <= 3; week++) {
            PrairiePool y = graded(week, 0);
            y.price(0, 5);
            y.price(1, 7);
            y.price(519, 900);
            CHECK.due("in WEEK " + week, y.alone(0, 0, week), week == 3 ? 7 : 5);
            y.rules(0, 20);
            CHECK.due("with the greatest LAG", y.alone(0, 0, week), 5);
        }
        // Ahead of its WEEK, not of that by which it is KNOWN.
        PrairiePool w = pool(1);
        w.load(0, 0, 1, 0, 51, 60);
        w.rules(0, 1);
        w.price(50, 3);
        w.price(59, 4);
        CHECK.due("that of WEEK 50", w.alone(0, 0, 60), 3);
        CHECK.due("not KNOWN", w.alone(0, 0, 59), 0);
        // Its GRADE as known.
        PrairiePool z = pool(1);
        z.load(0, 0, 1, 0, 9, 9);
        z.grading(0, 0, 1, 20);
        z.price(7, 100);
        CHECK.due("GRADE 5", z.alone(0, 0, 19), 50);
        CHECK.due("GRADE 1", z.alone(0, 0, 20), 90);
    }

    private static void alone() {
        PrairiePool x = new PrairiePool();
        x.farm(0, 1, 0);
        x.farm(0, 1, 0);
        x.elevator(0, 100);
        x.rules(0, 0);
        for (int week : new int[] {0, 51, 52}) {
            x.price(week, 1 + week);
        }
        CHECK.due(x, "without LOADS", x.alone(0, 0, 0), 0, 0);
        x.load(0, 0, 10, 500, 0, 0);
        CHECK.due(x, "NET", x.alone(0, 0, 0), 5, 0);
        x.load(0, 0, 100, 0, 51, 51);
        CHECK.due(x, "less what was TURNED away", x.alone(0, 0, 51), 5 + 95 * 52, 0);
        x.load(0, 0, 100, 0, 51, 51);
        CHECK.due(x, "all TURNED away", x.alone(0, 0, 51), 5 + 95 * 52, 0);
        x.spoil(0, 5, 0, 100, 52, 52);
        x.load(0, 0, 1, 0, 52, 52);
        CHECK.due(x, "of YEAR 1", x.alone(0, 1, 52), 53, 0);
        CHECK.due(x, "of YEAR 0, though it spoilt", x.alone(0, 0, 52), 5 + 95 * 52, 0);
        CHECK.due(x, "a WEEK ahead", x.alone(0, 1, 51), 0, 0);
        CHECK.due(x, "of the other", x.alone(1, 0, 52), 0, 0);
    }

    private static void more() {
        PrairiePool x = pool(20);
        x.rules(0, 0);
        CHECK.due(x, "nobody BROUGHT any", x.more(0, 0), 0, 0);
        for (int farm = 0; farm < 19; farm++) {
            x.load(farm, 0, 2, 0, 0, 0);
        }
        x.load(19, 0, 2, 1000, 0, 0);
        CHECK.due(x, "nothing is not more than nothing", x.more(0, 0), 0, 0);
        x.car(0, 0, 5, 0, 38, 0, 0);
        x.sale(0, 5, 0, 38, 10, 0, 0);
        CHECK.due(x, "all but who BROUGHT nothing", x.more(0, 0), 19, 0);
        x.price(0, 9);
        CHECK.due(x, "20 are more than 18", x.more(0, 0), 19, 0);
        x.price(0, 10);
        CHECK.due(x, "20 are not more than 20", x.more(0, 0), 0, 0);
        x.price(0, 11);
        CHECK.due(x, "nor than 22", x.more(0, 0), 0, 0);
        x.price(0, 0);
        for (int year : new int[] {-1, 10, MIN, MAX}) {
            CHECK.refused(x, "in " + year, x.more(year, 0), 5);
        }
        for (int week : new int[] {-1, 520, MIN, MAX}) {
            CHECK.refused(x, "by " + week, x.more(0, week), 5);
        }
        CHECK.due(x, "in YEAR 1", x.more(1, 0), 0, 0);
        CHECK.due(x, "by the last WEEK", x.more(0, 519), 19, 0);
    }

    private static void beside() {
        // A first payment that is more than all that came in: FIRST and LAST are still what was PARTED.
        PrairiePool x = pool(2);
        x.rules(0, 0);
        x.load(0, 0, 10, 0, 0, 0);
        x.load(1, 0, 10, 0, 0, 0);
        x.grading(0, 0, 2, 0);
        x.car(0, 0, 2, 0, 10, 0, 0);
        x.sale(0, 2, 0, 10, 3, 0, 0);
        Check.acts(x, "first:1000;", 0);
        CHECK.due("FIRST", x.first(0, 0, 0), 10000);
        CHECK.due("LAST", x.last(0, 0, 0), -9970);
        x.price(0, 2);
        CHECK.due(x, "30 are more than 20; 0 is not", x.more(0, 0), 1, 0);
        x.price(0, 3);
        CHECK.due(x, "30 are not more than 30", x.more(0, 0), 0, 0);
    }
}
