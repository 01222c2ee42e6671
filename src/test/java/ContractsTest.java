/** Promises 27 to 35: CONTRACTS, what is sold OUTSIDE, and ALONE. */
public final class ContractsTest {
    private static final Check CHECK = new Check("ContractsTest");

    public static void main(String[] args) {
        signing();
        letting();
        outsides();
        breaches();
        costs();
        pricesAsked();
        rulesAsked();
        aloneAsked();
        alone();
        aloneOfWhatCame();
        lag();
        more();
        moreIsNotAsMuch();
        CHECK.end();
    }

    private static PrairiePool pool(int farms) {
        PrairiePool x = new PrairiePool();
        for (int i = 0; i < farms; i++) {
            x.farm(i, 10 + i, 100 * i);
        }
        x.elevator(0, 1000000);
        return x;
    }

    private static void signing() {
        PrairiePool x = pool(1);
        CHECK.refused(x, "sign of 1", x.sign(1, 10, 0), 2);
        CHECK.refused(x, "sign of -1", x.sign(-1, 0, 0), 2);
        CHECK.refused(x, "sign from -1", x.sign(0, -1, 0), 5);
        CHECK.refused(x, "sign to 10", x.sign(0, 0, 10), 5);
        CHECK.refused(x, "sign from behind to", x.sign(0, 3, 2), 5);
        CHECK.refused(x, "sign from MIN", x.sign(0, Integer.MIN_VALUE, Integer.MAX_VALUE), 5);
        Check.acts(x, "breach: 1;", 0);
        for (int year = 0; year < 10; year++) {
            x.outside(0, year * 52, 1, 0);
            x.outside(0, year * 52 + 51, 1, 0);
        }
        for (int o = 0; o < 20; o++) {
            CHECK.due("not SIGNED", x.breach(o), 0);
        }
        CHECK.due(x, "sign", x.sign(0, 2, 4), true, 0);
        for (int o = 0; o < 20; o++) {
            CHECK.due("SIGNED from 2 to 4: " + o, x.breach(o), o >= 4 && o < 10 ? 1 : 0);
        }
        CHECK.due(x, "sign in place of what was", x.sign(0, 4, 4), true, 0);
        for (int o = 0; o < 20; o++) {
            CHECK.due("SIGNED in 4: " + o, x.breach(o), o >= 8 && o < 10 ? 1 : 0);
        }
        x.sign(0, 5, 4);
        CHECK.due("what is refused changes nothing", x.breach(8), 1);
        x.sign(0, 0, 9);
        CHECK.due("all YEARS", x.breach(0) + x.breach(19), 2);
    }

    private static void letting() {
        PrairiePool x = pool(2);
        CHECK.refused(x, "let of 2", x.let(2, 10, true), 2);
        CHECK.refused(x, "let of -1", x.let(-1, 0, true), 2);
        CHECK.refused(x, "let in 10", x.let(0, 10, true), 5);
        CHECK.refused(x, "let in -1", x.let(0, -1, false), 5);
        Check.acts(x, "breach: 1;", 0);
        x.sign(0, 0, 9);
        x.sign(1, 0, 9);
        x.outside(0, 52, 1, 0);
        x.outside(1, 52, 1, 0);
        x.outside(0, 104, 1, 0);
        CHECK.due(x, "let", x.let(0, 1, true), true, 0);
        CHECK.due("LET off", x.breach(0), 0);
        CHECK.due("another FARM", x.breach(1), 1);
        CHECK.due("another YEAR", x.breach(2), 1);
        x.sign(0, 1, 2);
        CHECK.due("SIGNED anew it is LET off still", x.breach(0), 0);
        CHECK.due(x, "let no more", x.let(0, 1, false), true, 0);
        CHECK.due("not LET off", x.breach(0), 1);
        // All FARMS and all YEARS are apart.
        PrairiePool y = new PrairiePool();
        Check.acts(y, "breach: 1;", 0);
        for (int farm = 0; farm < 20; farm++) {
            y.farm(0, 1, 0);
            y.sign(farm, 0, 9);
            y.outside(farm, farm % 10 * 52, 1, 1);
            y.outside(farm, (farm + 1) % 10 * 52, 1, 1);
            y.outside(farm, (farm + 9) % 10 * 52, 1, 1);
            CHECK.due(y, "let", y.let(farm, farm % 10, true), true, 0);
        }
        for (int o = 0; o < 60; o++) {
            CHECK.due("OUTSIDE " + o, y.breach(o), o % 3 == 0 ? 0 : 1);
        }
    }

    private static void outsides() {
        PrairiePool x = pool(1);
        CHECK.refused(x, "outside of 1", x.outside(1, 520, 1, 1), 2);
        CHECK.refused(x, "outside of -1", x.outside(-1, 0, 1, 1), 2);
        CHECK.refused(x, "outside in 520", x.outside(0, 520, 1, 1), 5);
        CHECK.refused(x, "outside in -1", x.outside(0, -1, 1, 1), 5);
        CHECK.refused(x, "outside of 0", x.outside(0, 0, 0, 1), 5);
        CHECK.refused(x, "outside of 10001", x.outside(0, 0, 10001, 1), 5);
        CHECK.refused(x, "outside for -1", x.outside(0, 0, 1, -1), 5);
        CHECK.refused(x, "outside for 1001", x.outside(0, 0, 1, 1001), 5);
        // Their WEEKS need no order.
        for (int i = 0; i < 60; i++) {
            CHECK.due(x, "outside", x.outside(0, 519 - i, 10000, 1000), i, 0);
        }
        CHECK.refused(x, "a 61st", x.outside(0, 0, 1, 1), 7);
        CHECK.refused(x, "a 61st that can't be", x.outside(0, 0, 0, 1), 5);
        CHECK.refused(x, "a 61st of nobody", x.outside(5, 0, 1, 1), 2);
        CHECK.refused(x, "breach(60)", x.breach(60), 8);
        CHECK.refused(x, "breach(-1)", x.breach(-1), 8);
        CHECK.refused(x, "breach(MIN)", x.breach(Integer.MIN_VALUE), 8);
        CHECK.due(x, "breach(59)", x.breach(59), 0, 0);
    }

    private static void breaches() {
        PrairiePool x = pool(2);
        x.sign(1, 0, 9);
        x.outside(1, 60, 30, 7);
        CHECK.due("without acts it costs nothing", x.breach(0), 0);
        CHECK.due("so it is none", x.cost(1, 1), 0);
        Check.acts(x, "breach: acres * 1 + debt + district + bushels + price + week + year;", 61);
        CHECK.due("not in force then", x.breach(0), 0);
        Check.acts(x, "breach: acres * 1 + debt + district + bushels + price + week + year;", 60);
        CHECK.due("in force then", x.breach(0), 1);
        CHECK.due("what it is told", x.cost(1, 1), (11 + 100 + 1 + 30 + 7 + 60 + 1) * 30);
        Check.acts(x, "breach: 0 - 5;", 60);
        CHECK.due("not above 0", x.breach(0), 0);
        Check.acts(x, "breach: 7 / (price - 7);", 60);
        CHECK.due("none", x.breach(0), 0);
    }

    private static void costs() {
        PrairiePool x = pool(2);
        CHECK.refused(x, "cost of 2", x.cost(2, 10), 2);
        CHECK.refused(x, "cost of -1", x.cost(-1, 0), 2);
        CHECK.refused(x, "cost in 10", x.cost(0, 10), 5);
        CHECK.refused(x, "cost in -1", x.cost(0, -1), 5);
        Check.acts(x, "breach: price;", 0);
        x.sign(0, 0, 9);
        x.sign(1, 0, 9);
        x.outside(0, 0, 10, 3);
        x.outside(0, 51, 100, 4);
        x.outside(0, 52, 1000, 5);
        x.outside(1, 1, 7, 9);
        CHECK.due("of all its OUTSIDE then", x.cost(0, 0), 430);
        CHECK.due("in another YEAR", x.cost(0, 1), 5000);
        CHECK.due("of another FARM", x.cost(1, 0), 63);
        CHECK.due("where there is none", x.cost(1, 1), 0);
        x.let(0, 0, true);
        CHECK.due("LET off", x.cost(0, 0), 0);
        CHECK.due("in another YEAR not", x.cost(0, 1), 5000);
        for (int i = 4; i < 60; i++) {
            x.outside(0, 519, 10000, 1000);
        }
        CHECK.due("much", x.cost(0, 9), 560000000L);
    }

    private static void pricesAsked() {
        PrairiePool x = pool(1);
        CHECK.refused(x, "price in -1", x.price(-1, 0), 5);
        CHECK.refused(x, "price in 520", x.price(520, 0), 5);
        CHECK.refused(x, "price of -1", x.price(0, -1), 5);
        CHECK.refused(x, "price of 1001", x.price(0, 1001), 5);
        CHECK.due(x, "price", x.price(0, 0), true, 0);
        CHECK.due(x, "price", x.price(519, 1000), true, 0);
        x.load(0, 0, 1, 0, 519, 519);
        x.rules(0, 0);
        CHECK.due("told", x.alone(0, 9, 519), 1000);
        x.price(519, 1001);
        CHECK.due("refused", x.alone(0, 9, 519), 1000);
        x.price(519, 3);
        CHECK.due("told anew", x.alone(0, 9, 519), 3);
    }

    private static void rulesAsked() {
        PrairiePool x = pool(1);
        x.load(0, 0, 1, 0, 30, 30);
        x.grading(0, 0, 1, 30);
        x.price(28, 500);
        x.price(10, 600);
        x.price(30, 700);
        CHECK.due("STEP 10, LAG 2", x.alone(0, 0, 30), 490);
        CHECK.refused(x, "step -1", x.rules(-1, 0), 5);
        CHECK.refused(x, "step 101", x.rules(101, 0), 5);
        CHECK.refused(x, "lag -1", x.rules(0, -1), 5);
        CHECK.refused(x, "lag 21", x.rules(0, 21), 5);
        CHECK.due("as it was", x.alone(0, 0, 30), 490);
        CHECK.due(x, "rules(100, 20)", x.rules(100, 20), true, 0);
        CHECK.due("STEP 100, LAG 20", x.alone(0, 0, 30), 500);
        CHECK.due(x, "rules(0, 0)", x.rules(0, 0), true, 0);
        CHECK.due("STEP 0, LAG 0", x.alone(0, 0, 30), 700);
    }

    private static void aloneAsked() {
        PrairiePool x = pool(1);
        CHECK.refused(x, "alone of 1", x.alone(1, 10, 0), 2);
        CHECK.refused(x, "alone of -1", x.alone(-1, 0, 0), 2);
        CHECK.refused(x, "alone in 10", x.alone(0, 10, 0), 5);
        CHECK.refused(x, "alone in -1", x.alone(0, -1, 0), 5);
        CHECK.refused(x, "alone by 520", x.alone(0, 0, 520), 5);
        CHECK.refused(x, "alone by -1", x.alone(0, 0, -1), 5);
        CHECK.due(x, "alone", x.alone(0, 9, 519), 0, 0);
        CHECK.refused(x, "more in 10", x.more(10, 0), 5);
        CHECK.refused(x, "more in -1", x.more(-1, 0), 5);
        CHECK.refused(x, "more by 520", x.more(0, 520), 5);
        CHECK.refused(x, "more by -1", x.more(0, -1), 5);
        CHECK.due(x, "more", x.more(9, 519), 0, 0);
    }

    private static void alone() {
        PrairiePool x = pool(2);
        x.price(1, 45);
        x.price(2, 30);
        x.load(0, 0, 10, 0, 3, 3);
        x.load(0, 0, 100, 0, 4, 4);
        x.load(1, 0, 1000, 0, 4, 4);
        x.grading(0, 0, 0, 5);
        x.grading(1, 0, 3, 6);
        CHECK.due("both of GRADE 5: the price is 0 at least", x.alone(0, 0, 4), 0);
        CHECK.due("one is of GRADE 0", x.alone(0, 0, 5), 450);
        CHECK.due("GRADE 3 has 30 less", x.alone(0, 0, 6), 450);
        x.rules(9, 2);
        CHECK.due("GRADE 3 has 27 less", x.alone(0, 0, 6), 750);
        CHECK.due("GRADE 5 has 45 less", x.alone(1, 0, 6), 0);
        CHECK.due("of another YEAR", x.alone(0, 1, 6), 0);
    }

    private static void aloneOfWhatCame() {
        PrairiePool x = new PrairiePool();
        x.farm(0, 1, 0);
        x.elevator(0, 100);
        x.rules(0, 0);
        x.price(0, 2);
        x.load(0, 0, 80, 250, 0, 0);
        CHECK.due("NET", x.alone(0, 0, 0), 120);
        x.load(0, 0, 80, 0, 0, 0);
        CHECK.due("less what was TURNED away", x.alone(0, 0, 0), 200);
    }

    private static void lag() {
        PrairiePool x = pool(1);
        x.rules(0, 5);
        x.price(0, 1);
        x.price(1, 100);
        x.load(0, 0, 1, 0, 0, 0);
        CHECK.due("WEEK 0, ahead of that", x.alone(0, 0, 0), 1);
        x.load(0, 0, 1, 0, 4, 4);
        CHECK.due("WEEK -1 is WEEK 0", x.alone(0, 0, 4), 2);
        x.load(0, 0, 1, 0, 5, 5);
        CHECK.due("WEEK 0", x.alone(0, 0, 5), 3);
        x.load(0, 0, 1, 0, 6, 6);
        CHECK.due("WEEK 1", x.alone(0, 0, 6), 103);
        CHECK.due("as known ahead", x.alone(0, 0, 5), 3);
        // The price of a WEEK in the YEAR ahead.
        x.price(50, 7);
        x.load(0, 0, 1, 0, 55, 55);
        CHECK.due("the LOAD's YEAR counts", x.alone(0, 1, 55), 7);
        CHECK.due("not the price's", x.alone(0, 0, 55), 103);
    }

    private static void more() {
        PrairiePool x = pool(4);
        x.rules(0, 0);
        x.price(0, 10);
        x.price(1, 12);
        x.load(0, 0, 10, 0, 0, 0);
        x.load(1, 0, 10, 0, 1, 1);
        x.load(2, 0, 10, 1000, 1, 1);
        CHECK.due("nothing is sold", x.more(0, 1), 0);
        x.car(0, 0, 5, 0, 20, 1, 1);
        x.sale(0, 5, 0, 20, 11, 1, 1);
        CHECK.due("11 are more than 10, but not than 12", x.more(0, 1), 1);
        x.price(1, 0);
        CHECK.due("both", x.more(0, 1), 2);
        Check.acts(x, "first: 1000;", 0);
        CHECK.due("FIRST and LAST together do not change", x.more(0, 1), 2);
        Check.acts(x, "held: 900;", 0);
        CHECK.due("what is held back does", x.more(0, 1), 1);
        CHECK.due("another YEAR", x.more(1, 1), 0);
        CHECK.due("as known", x.more(0, 0), 0);
    }

    private static void moreIsNotAsMuch() {
        PrairiePool x = pool(1);
        x.rules(0, 0);
        x.price(0, 10);
        x.load(0, 0, 10, 0, 0, 0);
        x.car(0, 0, 5, 0, 10, 0, 0);
        x.sale(0, 5, 0, 10, 10, 0, 0);
        CHECK.due("as much is not more", x.more(0, 0), 0);
        x.price(0, 9);
        CHECK.due("now it is", x.more(0, 0), 1);
    }
}
