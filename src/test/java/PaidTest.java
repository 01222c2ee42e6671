/** Promises 21 to 26: what is PAID and OWED, and CARS by turns. */
public final class PaidTest {
    private static final Check CHECK = new Check("PaidTest");

    public static void main(String[] args) {
        asking();
        came();
        kept();
        keptOfMore();
        brought();
        parting();
        partingByGrade();
        firsts();
        toldAtTheLastWeek();
        below();
        belowTogether();
        owedByTheBelow();
        askedFirst();
        regraded();
        large();
        turnsAsked();
        turnsWithout();
        turnsByAct();
        turnsAsKnown();
        CHECK.end();
    }

    private static PrairiePool pool(int farms) {
        PrairiePool x = new PrairiePool();
        for (int i = 0; i < farms; i++) {
            x.farm(0, 10, 0);
        }
        x.elevator(0, 1000000);
        return x;
    }

    // All that lies in the BIN of a GRADE is carried and sold.
    private static void sell(PrairiePool x, int grade, int year, int pence, int week) {
        int all = x.bin(0, grade, year, -1, week);
        x.car(0, 0, grade, year, all, week, week);
        x.sale(0, grade, year, all, pence, week, week);
    }

    private static void asking() {
        PrairiePool x = pool(1);
        CHECK.refused(x, "paid of grade 6", x.paid(10, 6, 0, 0), 2);
        CHECK.refused(x, "paid of grade -1", x.paid(0, -1, 0, 0), 2);
        CHECK.refused(x, "paid of year 10", x.paid(10, 0, 0, 0), 5);
        CHECK.refused(x, "paid of year -1", x.paid(-1, 0, 0, 0), 5);
        CHECK.refused(x, "paid of what 3", x.paid(0, 0, 3, 0), 5);
        CHECK.refused(x, "paid of what -1", x.paid(0, 0, -1, 0), 5);
        CHECK.refused(x, "paid by 520", x.paid(0, 0, 0, 520), 5);
        CHECK.refused(x, "paid by -1", x.paid(0, 0, 0, -1), 5);
        CHECK.due(x, "paid", x.paid(9, 5, 2, 519), 0, 0);
        int[] noFarms = {1, -1, -2, Integer.MAX_VALUE, Integer.MIN_VALUE};
        for (int farm : noFarms) {
            CHECK.refused(x, "last of " + farm, x.last(farm, 10, 0), 2);
            CHECK.refused(x, "first of " + farm, x.first(farm, 10, 0), 2);
            CHECK.refused(x, "owed of " + farm, x.owed(farm, 10, 0), 2);
        }
        int[] noYears = {10, -1, Integer.MAX_VALUE, Integer.MIN_VALUE};
        for (int year : noYears) {
            CHECK.refused(x, "last in " + year, x.last(0, year, 0), 5);
            CHECK.refused(x, "first in " + year, x.first(0, year, 0), 5);
            CHECK.refused(x, "owed in " + year, x.owed(0, year, 0), 5);
            CHECK.refused(x, "below in " + year, x.below(year, 0, 0), 5);
        }
        CHECK.refused(x, "last by 520", x.last(0, 0, 520), 5);
        CHECK.refused(x, "first by 520", x.first(0, 0, 520), 5);
        CHECK.refused(x, "owed by -1", x.owed(0, 0, -1), 5);
        CHECK.refused(x, "below by 520", x.below(0, 0, 520), 5);
        CHECK.refused(x, "below of what 2", x.below(0, 2, 0), 5);
        CHECK.refused(x, "below of what -1", x.below(0, -1, 0), 5);
        CHECK.due(x, "last", x.last(0, 9, 519), 0, 0);
        CHECK.due(x, "first", x.first(0, 9, 519), 0, 0);
        CHECK.due(x, "owed", x.owed(0, 9, 519), 0, 0);
        CHECK.due(x, "below", x.below(9, 1, 519), 0, 0);
    }

    private static void came() {
        PrairiePool x = pool(1);
        x.load(0, 0, 100, 0, 0, 0);
        x.car(0, 0, 5, 0, 60, 0, 0);
        x.car(0, 1, 5, 0, 40, 0, 0);
        x.sale(0, 5, 0, 100, 7, 0, 0);
        CHECK.due("what was taken indeed", x.paid(0, 5, 0, 0), 420);
        x.sale(1, 5, 0, 10, 11, 60, 60);
        CHECK.due("at both PORTS, whenever it is sold", x.paid(0, 5, 0, 60), 530);
        CHECK.due("not the YEAR in which it is sold", x.paid(1, 5, 0, 60), 0);
        CHECK.due("as known", x.paid(0, 5, 0, 59), 420);
        CHECK.due("another GRADE", x.paid(0, 4, 0, 60), 0);
        CHECK.due("KEPT without", x.paid(0, 5, 1, 60), 0);
    }

    private static void kept() {
        PrairiePool x = pool(1);
        x.load(0, 0, 111, 0, 0, 0);
        sell(x, 5, 0, 9, 0);
        Check.acts(x, "held: 100;", 0);
        CHECK.due("rounded down", x.paid(0, 5, 1, 0), 99);
        CHECK.due("LAST", x.last(0, 0, 0), 900);
        Check.acts(x, "held: 1001;", 0);
        CHECK.due("no more than all", x.paid(0, 5, 1, 0), 999);
        x.load(0, 0, 10000, 0, 0, 0);
        sell(x, 5, 0, 9, 0);
        CHECK.due("no more than all of much", x.paid(0, 5, 1, 0), 90999);
        CHECK.due("LAST", x.last(0, 0, 0), 0);
    }

    private static void keptOfMore() {
        PrairiePool x = pool(1);
        x.load(0, 0, 111, 0, 0, 0);
        sell(x, 5, 0, 9, 0);
        Check.acts(x, "held: 2000;", 0);
        CHECK.due("LAST", x.last(0, 0, 0), 0);
        Check.acts(x, "held: 0 - 5;", 0);
        CHECK.due("no less than nothing", x.paid(0, 5, 1, 0), 0);
        Check.acts(x, "held: grade * 10 + year;", 0);
        CHECK.due("what it is told", x.paid(0, 5, 1, 0), 49);
    }

    private static void brought() {
        PrairiePool x = new PrairiePool();
        x.farm(0, 1, 0);
        x.farm(0, 1, 0);
        x.elevator(0, 100);
        x.load(0, 0, 80, 500, 0, 0);
        CHECK.due("NET", x.paid(0, 5, 2, 0), 40);
        x.load(1, 0, 80, 0, 1, 1);
        CHECK.due("less what is TURNED away", x.paid(0, 5, 2, 1), 100);
        CHECK.due("as known", x.paid(0, 5, 2, 0), 40);
        x.grading(0, 0, 3, 2);
        CHECK.due("by GRADE", x.paid(0, 3, 2, 2), 40);
        CHECK.due("by GRADE", x.paid(0, 5, 2, 2), 60);
        x.spoil(0, 3, 0, 40, 2, 2);
        CHECK.due("spoilt or not", x.paid(0, 3, 2, 2), 40);
        x.load(1, 0, 30, 0, 52, 52);
        CHECK.due("by YEAR", x.paid(1, 5, 2, 52), 30);
        CHECK.due("by YEAR", x.paid(0, 5, 2, 52), 60);
    }

    private static void parting() {
        PrairiePool x = pool(3);
        x.load(0, 0, 10, 0, 0, 0);
        x.load(1, 0, 10, 0, 0, 0);
        x.load(2, 0, 10, 0, 0, 0);
        x.car(0, 0, 5, 0, 10, 0, 0);
        x.sale(0, 5, 0, 5, 4, 0, 0);
        // 20 among three alike: 6 each, and one to the first two.
        CHECK.due("LAST of 0", x.last(0, 0, 0), 7);
        CHECK.due("LAST of 1", x.last(1, 0, 0), 7);
        CHECK.due("LAST of 2", x.last(2, 0, 0), 6);
        CHECK.due("not BELOW", x.below(0, 0, 0), 0);
        CHECK.due("FIRST", x.first(0, 0, 0), 0);
    }

    private static void partingByGrade() {
        PrairiePool x = pool(2);
        x.load(0, 0, 10, 0, 0, 0);
        x.load(1, 0, 30, 0, 0, 0);
        x.load(1, 0, 7, 0, 0, 0);
        x.grading(2, 0, 0, 0);
        sell(x, 5, 0, 10, 1);
        sell(x, 0, 0, 3, 1);
        CHECK.due("CAME of 5", x.paid(0, 5, 0, 1), 400);
        CHECK.due("CAME of 0", x.paid(0, 0, 0, 1), 21);
        CHECK.due("LAST of 0: of GRADE 5 alone", x.last(0, 0, 1), 100);
        CHECK.due("LAST of 1: of both", x.last(1, 0, 1), 321);
        Check.acts(x, "first: if grade = 0 then 2 else 4; held: if grade = 0 then 500 else 0;", 0);
        CHECK.due("FIRST of 0", x.first(0, 0, 1), 40);
        CHECK.due("FIRST of 1", x.first(1, 0, 1), 134);
        CHECK.due("LAST of 0", x.last(0, 0, 1), 60);
        CHECK.due("LAST of 1", x.last(1, 0, 1), 300 + 11 - 134);
    }

    private static void firsts() {
        PrairiePool x = pool(2);
        x.load(0, 0, 1000, 100, 0, 0);
        Check.acts(x, "first: 7;", 0);
        CHECK.due("times what it BROUGHT", x.first(0, 0, 0), 6300);
        CHECK.due("LAST", x.last(0, 0, 0), -6300);
        CHECK.due("who BROUGHT none", x.first(1, 0, 0), 0);
        CHECK.due("in another YEAR", x.first(0, 1, 0), 0);
        Check.acts(x, "first: 1001;", 0);
        CHECK.due("at most 1,000", x.first(0, 0, 0), 900000);
        Check.acts(x, "first: 0 - 1;", 0);
        CHECK.due("at least 0", x.first(0, 0, 0), 0);
        // LAST may be -1 with STATUS 0.
        Check.acts(x, "first: 1 / 900;", 0);
        PrairiePool y = pool(1);
        y.load(0, 0, 1, 0, 0, 0);
        Check.acts(y, "first: 1;", 0);
        CHECK.due(y, "LAST of -1", y.last(0, 0, 0), -1, 0);
    }

    private static void toldAtTheLastWeek() {
        PrairiePool x = pool(1);
        x.load(0, 0, 10, 0, 60, 60);
        Check.acts(x, "first: 3;", 103);
        CHECK.due("in force in the last WEEK", x.first(0, 1, 60), 30);
        Check.acts(x, "first: 4;", 104);
        CHECK.due("not in force then", x.first(0, 1, 60), 30);
        Check.acts(x, "first: 100 + week + bushels + acres + debt + district + price + cars + waits + grader"
                + " + grade + year;", 103);
        CHECK.due("told are GRADE and YEAR alone", x.first(0, 1, 60), 1060);
        PrairiePool y = pool(1);
        y.load(0, 0, 10000, 0, 60, 60);
        Check.acts(y, "first: 2; stand: 100 + week + grade + year * 10;", 103);
        CHECK.due("stand is told the YEAR alone", y.below(1, 1, 60), 2200);
        CHECK.due("BELOW", y.below(1, 0, 60), 20000);
        Check.acts(y, "first: 2;", 103);
        CHECK.due("without stand", y.below(1, 1, 60), 0);
        Check.acts(y, "first: 2; stand: 1001;", 103);
        CHECK.due("no more than all", y.below(1, 1, 60), 20000);
        Check.acts(y, "first: 2; stand: 0 - 1;", 103);
        CHECK.due("no less than nothing", y.below(1, 1, 60), 0);
    }

    private static void below() {
        PrairiePool x = pool(2);
        x.load(0, 0, 10, 0, 0, 0);
        x.load(1, 0, 25, 0, 0, 0);
        Check.acts(x, "first: 3;", 0);
        CHECK.due("BELOW", x.below(0, 0, 0), 105);
        CHECK.due("without stand", x.below(0, 1, 0), 0);
        CHECK.due("OWED by 0", x.owed(0, 0, 0), 30);
        CHECK.due("OWED by 1", x.owed(1, 0, 0), 75);
        Check.acts(x, "first: 3; stand: 333;", 0);
        CHECK.due("rounded down", x.below(0, 1, 0), 34);
        // 71 by 30 and 75: 20 rest 30, 50 rest 75.
        CHECK.due("OWED by 0", x.owed(0, 0, 0), 20);
        CHECK.due("OWED by 1", x.owed(1, 0, 0), 51);
        Check.acts(x, "first: 3; stand: 5000;", 0);
        CHECK.due("all", x.below(0, 1, 0), 105);
        CHECK.due("OWED by 1", x.owed(1, 0, 0), 0);
        Check.acts(x, "first: 3; stand: 0 - 9;", 0);
        CHECK.due("nothing", x.below(0, 1, 0), 0);
    }

    private static void belowTogether() {
        PrairiePool x = pool(2);
        x.load(0, 0, 10, 0, 0, 0);
        x.load(1, 0, 10, 0, 0, 0);
        x.grading(0, 0, 2, 0);
        Check.acts(x, "first: 5; stand: 100;", 0);
        sell(x, 2, 0, 10, 0);
        CHECK.due("LAST of 0", x.last(0, 0, 0), 50);
        CHECK.due("LAST of 1", x.last(1, 0, 0), -50);
        CHECK.due("together 0: not BELOW", x.below(0, 0, 0), 0);
        CHECK.due("so nothing is OWED", x.owed(1, 0, 0), 0);
        CHECK.due("the state stands for none", x.below(0, 1, 0), 0);
    }

    private static void owedByTheBelow() {
        PrairiePool x = pool(3);
        x.load(0, 0, 10, 0, 0, 0);
        x.load(1, 0, 10, 0, 0, 0);
        x.load(2, 0, 20, 0, 0, 0);
        x.grading(0, 0, 2, 0);
        sell(x, 2, 0, 9, 0);
        Check.acts(x, "first: 5; stand: 100;", 0);
        CHECK.due("LAST of 0", x.last(0, 0, 0), 40);
        CHECK.due("LAST of 1", x.last(1, 0, 0), -50);
        CHECK.due("LAST of 2", x.last(2, 0, 0), -100);
        CHECK.due("BELOW", x.below(0, 0, 0), 110);
        CHECK.due("the state", x.below(0, 1, 0), 11);
        CHECK.due("OWED by 0", x.owed(0, 0, 0), 0);
        CHECK.due("OWED by 1", x.owed(1, 0, 0), 33);
        CHECK.due("OWED by 2", x.owed(2, 0, 0), 66);
    }

    private static PrairiePool poor(int year) {
        PrairiePool x = pool(2);
        x.load(0, 0, 10, 0, year * 52, year * 52);
        x.load(1, 0, 30, 0, year * 52, year * 52);
        sell(x, 5, year, 2, year * 52);
        Check.acts(x, "first: 5; stand: 500;", 0);
        return x;
    }

    // Each call reckons all by itself, whatever was asked ahead.
    private static void askedFirst() {
        CHECK.due("OWED", poor(0).owed(1, 0, 9), 45);
        CHECK.due("BELOW", poor(0).below(0, 0, 9), 120);
        CHECK.due("the state", poor(0).below(0, 1, 9), 60);
        CHECK.due("LAST", poor(0).last(1, 0, 9), -90);
        CHECK.due("FIRST", poor(0).first(1, 0, 9), 150);
        CHECK.due("CAME", poor(0).paid(0, 5, 0, 9), 80);
        CHECK.due("BROUGHT", poor(0).paid(0, 5, 2, 9), 40);
        PrairiePool x = poor(3);
        for (int i = 0; i < 2; i++) {
            CHECK.due("OWED", x.owed(1, 3, 519), 45);
            CHECK.due("OWED in another YEAR", x.owed(1, 2, 519), 0);
            CHECK.due("BELOW", x.below(3, 0, 519), 120);
            CHECK.due("BELOW in another YEAR", x.below(2, 0, 519), 0);
            CHECK.due("the state", x.below(3, 1, 519), 60);
            CHECK.due("the state in another YEAR", x.below(2, 1, 519), 0);
            CHECK.due("LAST", x.last(0, 3, 519), -30);
            CHECK.due("LAST in another YEAR", x.last(0, 4, 519), 0);
            CHECK.due("FIRST", x.first(0, 3, 519), 50);
            CHECK.due("FIRST in another YEAR", x.first(0, 4, 519), 0);
            CHECK.due("CAME", x.paid(3, 5, 0, 519), 80);
            CHECK.due("CAME in another YEAR", x.paid(0, 5, 0, 519), 0);
            CHECK.due("as known ahead", x.owed(1, 3, 155), 0);
        }
    }

    private static void regraded() {
        PrairiePool x = pool(2);
        x.load(0, 0, 40, 0, 0, 0);
        x.load(1, 0, 40, 0, 0, 0);
        x.car(0, 0, 5, 0, 40, 1, 1);
        x.sale(0, 5, 0, 40, 10, 2, 2);
        CHECK.due("half each", x.last(0, 0, 2), 200);
        x.grading(0, 0, 1, 9);
        CHECK.due("as known later, all to the other", x.last(1, 0, 9), 400);
        CHECK.due("and nothing to this one", x.last(0, 0, 9), 0);
        CHECK.due("by then half each", x.last(0, 0, 8), 200);
    }

    private static void large() {
        PrairiePool x = pool(20);
        for (int i = 0; i < 100; i++) {
            x.load(i % 20, 0, 10000, 0, 0, 0);
        }
        for (int i = 0; i < 10; i++) {
            x.car(0, 0, 5, 0, 100000, 0, 0);
            x.sale(0, 5, 0, 100000, 1000, 0, 0);
        }
        CHECK.due("CAME", x.paid(0, 5, 0, 0), 1000000000L);
        CHECK.due("LAST", x.last(19, 0, 0), 50000000L);
        Check.acts(x, "first: 1000; held: 1000; stand: 1;", 0);
        CHECK.due("LAST", x.last(7, 0, 0), -50000000L);
        CHECK.due("BELOW", x.below(0, 0, 0), 1000000000L);
        CHECK.due("the state", x.below(0, 1, 0), 1000000L);
        CHECK.due("OWED", x.owed(7, 0, 0), 49950000L);
    }

    private static void turnsAsked() {
        PrairiePool x = pool(1);
        CHECK.refused(x, "turns of no elevator", x.turns(600, 0, 1), 2);
        CHECK.refused(x, "turns of -1", x.turns(0, 1, -1), 2);
        CHECK.refused(x, "turns of 0 cars", x.turns(0, 0, 0), 5);
        CHECK.refused(x, "turns of 21 cars", x.turns(0, 21, 0), 5);
        CHECK.refused(x, "turns in week 520", x.turns(520, 1, 0), 5);
        CHECK.refused(x, "turns in week -1", x.turns(-1, 1, 0), 5);
        CHECK.due(x, "nobody waits", x.turns(519, 20, 0), 0, 0);
    }

    private static PrairiePool waiting(int... bushels) {
        PrairiePool x = new PrairiePool();
        x.farm(0, 1, 0);
        for (int i = 0; i < bushels.length; i++) {
            x.elevator(i % 6, 1000000);
            for (int left = bushels[i]; left > 0; left -= 10000) {
                x.load(0, i, Math.min(left, 10000), 0, 0, 0);
            }
        }
        return x;
    }

    private static void cars(String what, PrairiePool x, int n, int... want) {
        for (int i = 0; i < want.length; i++) {
            CHECK.due(what + ": cars of " + i, x.turns(0, n, i), want[i]);
        }
    }

    private static void turnsWithout() {
        PrairiePool x = waiting(0, 1000, 1001, 1, 20000);
        cars("1", x, 1, 0, 1, 0, 0, 0);
        cars("2", x, 2, 0, 1, 1, 0, 0);
        cars("3", x, 3, 0, 1, 2, 0, 0);
        cars("4", x, 4, 0, 1, 2, 1, 0);
        cars("20", x, 20, 0, 1, 2, 1, 16);
        cars("eight", waiting(0, 0, 0, 0, 0, 0, 0, 5), 20, 0, 0, 0, 0, 0, 0, 0, 1);
    }

    private static void turnsByAct() {
        PrairiePool x = waiting(2500, 2500, 900);
        Check.acts(x, "turn: waits;", 0);
        cars("by waits", x, 1, 1, 0, 0);
        cars("by waits", x, 4, 2, 2, 0);
        cars("by waits", x, 5, 2, 2, 1);
        cars("by waits", x, 20, 3, 3, 1);
        Check.acts(x, "turn: 0 - cars;", 0);
        cars("round", x, 3, 1, 1, 1);
        cars("round", x, 5, 2, 2, 1);
        Check.acts(x, "turn: district;", 0);
        cars("by district", x, 2, 0, 1, 1);
        Check.acts(x, "turn: if district = 1 then 999999 * 9 else 999999 + 1;", 0);
        cars("cut to bounds", x, 3, 3, 0, 0);
        PrairiePool y = waiting(1500, 1500);
        Check.acts(y, "turn: if district = 0 then 0 - 999999 * 2 else 0 - 999999;", 0);
        cars("below 0", y, 1, 0, 1);
        PrairiePool z = waiting(1500, 1500);
        Check.acts(z, "turn: if district = 1 and week + year + acres + debt + bushels + grade + price = 0"
                + " then 1 / 0 else 0 - 1;", 0);
        cars("none is 0", z, 1, 0, 1);
        PrairiePool u = waiting(1500, 1500);
        Check.acts(u, "turn: if district = 0 then 1 / 0 else 1;", 0);
        cars("none is below 1", u, 1, 0, 1);
        PrairiePool v = waiting(1500, 1500);
        Check.acts(v, "turn: if district = 0 then 0 - 999999 - 2 else 0 - 999999 - 1;", 0);
        cars("least turns are alike", v, 1, 1, 0);
    }

    private static void turnsAsKnown() {
        PrairiePool x = waiting(500, 0);
        x.load(0, 1, 5000, 0, 60, 70);
        CHECK.due("not known yet", x.turns(60, 5, 1), 0);
        CHECK.due("known", x.turns(70, 5, 1), 4);
        x.car(1, 0, 5, 1, 4500, 71, 71);
        CHECK.due("carried away", x.turns(71, 5, 1), 1);
        x.spoil(1, 5, 1, 500, 72, 72);
        CHECK.due("spoilt", x.turns(72, 5, 1), 0);
        Check.acts(x, "turn: if district = week - 70 and year = 1 then 1 else 0;", 71);
        CHECK.due("told the WEEK", x.turns(71, 1, 1), 1);
        CHECK.due("the acts of that WEEK", x.turns(70, 1, 1), 0);
        // Bushels of all GRADES and YEARS wait.
        PrairiePool y = waiting(600);
        y.load(0, 0, 600, 0, 60, 60);
        y.grading(0, 0, 1, 60);
        CHECK.due("together", y.turns(60, 5, 0), 2);
    }
}
