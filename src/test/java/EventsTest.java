/** Promises 7 to 17: FARMS, ELEVATORS, EVENTS, GRADINGS, and what lies where. */
public final class EventsTest {
    private static final Check CHECK = new Check("EventsTest");
    private static final int MIN = Integer.MIN_VALUE;
    private static final int MAX = Integer.MAX_VALUE;

    public static void main(String[] args) {
        farms();
        elevators();
        loads();
        cars();
        sales();
        spoils();
        eventsTogether();
        order();
        gradings();
        grades();
        ranks();
        rankAsItComes();
        docking();
        room();
        roomComesBack();
        parting();
        partingTies();
        sharesMoveOn();
        taking();
        placesAreApart();
        asManyPlacesAsEvents();
        regrading();
        asKnown();
        asking();
        CHECK.end();
    }

    private static PrairiePool pool(int farms, int elevators, int room) {
        PrairiePool x = new PrairiePool();
        for (int i = 0; i < farms; i++) {
            x.farm(i % 6, 10 + i, i);
        }
        for (int i = 0; i < elevators; i++) {
            x.elevator(i % 6, room);
        }
        return x;
    }

    private static void farms() {
        PrairiePool x = new PrairiePool();
        int[] noDistricts = {-1, 6, MIN, MAX};
        for (int d : noDistricts) {
            CHECK.refused(x, "farm(" + d + ", 0, 0)", x.farm(d, 0, 0), 2);
        }
        CHECK.refused(x, "farm(0, 0, 0)", x.farm(0, 0, 0), 5);
        CHECK.refused(x, "farm(0, 5001, 0)", x.farm(0, 5001, 0), 5);
        CHECK.refused(x, "farm(0, 1, -1)", x.farm(0, 1, -1), 5);
        CHECK.refused(x, "farm(0, 1, 100001)", x.farm(0, 1, 100001), 5);
        CHECK.due(x, "farm(0, 1, 0)", x.farm(0, 1, 0), 0, 0);
        CHECK.due(x, "farm(5, 5000, 100000)", x.farm(5, 5000, 100000), 1, 0);
        for (int i = 2; i < 20; i++) {
            CHECK.due(x, "farm", x.farm(i % 6, 7, 7), i, 0);
        }
        CHECK.refused(x, "a 21st farm", x.farm(0, 1, 0), 7);
        CHECK.refused(x, "a 21st farm that can't be", x.farm(0, 0, 0), 5);
        CHECK.refused(x, "a 21st farm nowhere", x.farm(6, 1, 0), 2);
        CHECK.due(x, "vote(19, 1)", x.vote(19, 1), true, 0);
        CHECK.refused(x, "vote(20, 1)", x.vote(20, 1), 2);
    }

    private static void elevators() {
        PrairiePool x = new PrairiePool();
        CHECK.refused(x, "elevator(-1, 0)", x.elevator(-1, 0), 2);
        CHECK.refused(x, "elevator(6, 1)", x.elevator(6, 1), 2);
        CHECK.refused(x, "elevator(0, 0)", x.elevator(0, 0), 5);
        CHECK.refused(x, "elevator(0, 1000001)", x.elevator(0, 1000001), 5);
        CHECK.refused(x, "elevator(0, MIN)", x.elevator(0, MIN), 5);
        CHECK.due(x, "elevator(0, 1)", x.elevator(0, 1), 0, 0);
        CHECK.due(x, "elevator(5, 1000000)", x.elevator(5, 1000000), 1, 0);
        for (int i = 2; i < 8; i++) {
            CHECK.due(x, "elevator", x.elevator(i % 6, 7), i, 0);
        }
        CHECK.refused(x, "a 9th elevator", x.elevator(0, 1), 7);
        CHECK.refused(x, "a 9th elevator without room", x.elevator(0, 0), 5);
        CHECK.refused(x, "a 9th elevator nowhere", x.elevator(9, 0), 2);
    }

    private static void loads() {
        PrairiePool x = pool(1, 1, 1000000);
        CHECK.refused(x, "load of no farm", x.load(1, 0, 0, 0, 0, 0), 2);
        CHECK.refused(x, "load of farm -1", x.load(-1, 0, 1, 0, 0, 0), 2);
        CHECK.refused(x, "load to no elevator", x.load(0, 1, 1, 0, 0, 0), 2);
        CHECK.refused(x, "load to elevator -1", x.load(0, -1, 1, 0, 600, 0), 2);
        CHECK.refused(x, "load of 0", x.load(0, 0, 0, 0, 0, 0), 5);
        CHECK.refused(x, "load of 10001", x.load(0, 0, 10001, 0, 0, 0), 5);
        CHECK.refused(x, "load docked -1", x.load(0, 0, 1, -1, 0, 0), 5);
        CHECK.refused(x, "load docked 1001", x.load(0, 0, 1, 1001, 0, 0), 5);
        CHECK.refused(x, "load in week -1", x.load(0, 0, 1, 0, -1, 0), 5);
        CHECK.refused(x, "load in week 520", x.load(0, 0, 1, 0, 520, 520), 5);
        CHECK.refused(x, "load known by 520", x.load(0, 0, 1, 0, 519, 520), 5);
        CHECK.refused(x, "load known ahead of its week", x.load(0, 0, 1, 0, 5, 4), 5);
        CHECK.refused(x, "load of MAX", x.load(0, 0, MAX, MAX, MAX, MAX), 5);
        CHECK.refused(x, "load of MIN", x.load(0, 0, MIN, MIN, MIN, MIN), 5);
        CHECK.due(x, "load", x.load(0, 0, 10000, 1000, 0, 0), 0, 0);
        CHECK.due(x, "load", x.load(0, 0, 1, 0, 519, 519), 1, 0);
        CHECK.due("bin", x.bin(0, 5, 9, 0, 519), 1);
    }

    private static void cars() {
        PrairiePool x = pool(1, 1, 1000);
        CHECK.refused(x, "car from no elevator", x.car(1, 0, 0, 10, 1, 0, 0), 2);
        CHECK.refused(x, "car from -1", x.car(-1, 0, 0, 0, 1, 0, 0), 2);
        CHECK.refused(x, "car to port 2", x.car(0, 2, 0, 0, 0, 0, 0), 2);
        CHECK.refused(x, "car to port -1", x.car(0, -1, 0, 0, 1, 0, 0), 2);
        CHECK.refused(x, "car of grade 6", x.car(0, 0, 6, 0, 1, 0, 0), 2);
        CHECK.refused(x, "car of grade -1", x.car(0, 0, -1, 0, 1, 0, 0), 2);
        CHECK.refused(x, "car of year 10", x.car(0, 0, 0, 10, 1, 0, 0), 5);
        CHECK.refused(x, "car of year -1", x.car(0, 0, 0, -1, 1, 0, 0), 5);
        CHECK.refused(x, "car of 0", x.car(0, 0, 0, 0, 0, 0, 0), 5);
        CHECK.refused(x, "car of 100001", x.car(0, 0, 0, 0, 100001, 0, 0), 5);
        CHECK.refused(x, "car in week 520", x.car(0, 0, 0, 0, 1, 520, 520), 5);
        CHECK.refused(x, "car known ahead", x.car(0, 0, 0, 0, 1, 2, 1), 5);
        CHECK.due(x, "car of 100000", x.car(0, 1, 5, 9, 100000, 0, 0), 0, 0);
        CHECK.due(x, "car of 1", x.car(0, 0, 0, 0, 1, 0, 0), 1, 0);
        CHECK.due("SHORT", x.sum(-1, 4, 0), 100001);
        CHECK.refused(x, "grading of a car", x.grading(0, 0, 0, 0), 2);
        CHECK.refused(x, "grade of a car", x.grade(0, 0), 2);
    }

    private static void sales() {
        PrairiePool x = pool(1, 1, 1000);
        CHECK.refused(x, "sale at port 2", x.sale(2, 0, 10, 1, 1, 0, 0), 2);
        CHECK.refused(x, "sale at port -1", x.sale(-1, 0, 0, 1, 1, 0, 0), 2);
        CHECK.refused(x, "sale of grade 6", x.sale(0, 6, 0, 1, 1, 0, 0), 2);
        CHECK.refused(x, "sale of grade -1", x.sale(0, -1, 0, 1, 1, 0, 0), 2);
        CHECK.refused(x, "sale of year 10", x.sale(0, 0, 10, 1, 1, 0, 0), 5);
        CHECK.refused(x, "sale of year -1", x.sale(0, 0, -1, 1, 1, 0, 0), 5);
        CHECK.refused(x, "sale of 0", x.sale(0, 0, 0, 0, 1, 0, 0), 5);
        CHECK.refused(x, "sale of 100001", x.sale(0, 0, 0, 100001, 1, 0, 0), 5);
        CHECK.refused(x, "sale for -1", x.sale(0, 0, 0, 1, -1, 0, 0), 5);
        CHECK.refused(x, "sale for 1001", x.sale(0, 0, 0, 1, 1001, 0, 0), 5);
        CHECK.refused(x, "sale in week -1", x.sale(0, 0, 0, 1, 1, -1, 0), 5);
        CHECK.refused(x, "sale known ahead", x.sale(0, 0, 0, 1, 1, 9, 8), 5);
        CHECK.due(x, "sale for 1000", x.sale(0, 0, 0, 1, 1000, 0, 0), 0, 0);
        CHECK.due(x, "sale for 0", x.sale(1, 5, 9, 100000, 0, 0, 0), 1, 0);
        CHECK.due("SHORT", x.sum(-1, 4, 0), 100001);
        CHECK.refused(x, "grade of a sale", x.grade(0, 0), 2);
    }

    private static void spoils() {
        PrairiePool x = pool(1, 1, 1000);
        CHECK.refused(x, "spoil at no elevator", x.spoil(1, 0, 10, 1, 0, 0), 2);
        CHECK.refused(x, "spoil at -1", x.spoil(-1, 0, 0, 1, 0, 0), 2);
        CHECK.refused(x, "spoil of grade 6", x.spoil(0, 6, 0, 1, 0, 0), 2);
        CHECK.refused(x, "spoil of grade -1", x.spoil(0, -1, 0, 1, 0, 0), 2);
        CHECK.refused(x, "spoil of year 10", x.spoil(0, 0, 10, 1, 0, 0), 5);
        CHECK.refused(x, "spoil of 0", x.spoil(0, 0, 0, 0, 0, 0), 5);
        CHECK.refused(x, "spoil of 100001", x.spoil(0, 0, 0, 100001, 0, 0), 5);
        CHECK.refused(x, "spoil known ahead", x.spoil(0, 0, 0, 1, 9, 8), 5);
        CHECK.due(x, "spoil", x.spoil(0, 0, 0, 100000, 0, 0), 0, 0);
        CHECK.due("SHORT", x.sum(-1, 4, 0), 100000);
        CHECK.refused(x, "grade of a spoil", x.grade(0, 0), 2);
    }

    private static void eventsTogether() {
        PrairiePool x = pool(1, 1, 1000000);
        for (int i = 0; i < 120; i++) {
            int got = i % 4 == 0 ? x.load(0, 0, 10, 0, 10, 10) : i % 4 == 1 ? x.car(0, 0, 5, 0, 3, 10, 10)
                    : i % 4 == 2 ? x.sale(0, 5, 0, 2, 1, 10, 10) : x.spoil(0, 5, 0, 1, 10, 10);
            CHECK.due(x, "event", got, i, 0);
        }
        CHECK.refused(x, "a 121st load", x.load(0, 0, 1, 0, 10, 10), 7);
        CHECK.refused(x, "a 121st load, gone", x.load(0, 0, 1, 0, 1, 1), 7);
        CHECK.refused(x, "a 121st load that can't be", x.load(0, 0, 0, 0, 1, 1), 5);
        CHECK.refused(x, "a 121st car", x.car(0, 0, 0, 0, 1, 1, 1), 7);
        CHECK.refused(x, "a 121st sale", x.sale(0, 0, 0, 1, 1, 1, 1), 7);
        CHECK.refused(x, "a 121st spoil", x.spoil(0, 0, 0, 1, 1, 1), 7);
        CHECK.due(x, "a grading goes on", x.grading(0, 0, 5, 10), true, 0);
        // 300 came; 30 times 3 were carried, 2 of them sold, 1 spoilt.
        CHECK.due("bin", x.bin(0, 5, 0, 0, 10), 180);
        CHECK.due("port", x.port(0, 5, 0, 0, 10), 30);
        CHECK.due("sold", x.sum(0, 2, 10), 60);
        CHECK.due("spoilt", x.sum(0, 3, 10), 30);
    }

    private static void order() {
        PrairiePool x = pool(1, 1, 1000);
        CHECK.due(x, "load", x.load(0, 0, 1, 0, 4, 9), 0, 0);
        CHECK.refused(x, "a week that is gone", x.load(0, 0, 1, 0, 3, 9), 12);
        CHECK.refused(x, "known that is gone", x.load(0, 0, 1, 0, 4, 8), 12);
        CHECK.refused(x, "car gone", x.car(0, 0, 0, 0, 1, 3, 9), 12);
        CHECK.refused(x, "sale gone", x.sale(0, 0, 0, 1, 1, 3, 9), 12);
        CHECK.refused(x, "spoil gone", x.spoil(0, 0, 0, 1, 3, 9), 12);
        CHECK.due(x, "the same weeks", x.load(0, 0, 1, 0, 4, 9), 1, 0);
        CHECK.due(x, "grading", x.grading(0, 0, 1, 12), true, 0);
        CHECK.refused(x, "known ahead of the grading's", x.load(0, 0, 1, 0, 5, 11), 12);
        CHECK.due(x, "known as the grading", x.load(0, 0, 1, 0, 5, 12), 2, 0);
        CHECK.refused(x, "grading gone", x.grading(0, 0, 1, 11), 12);
        // A call that is refused changes nothing: WEEK 5 and KNOWN 12 are still the latest.
        CHECK.refused(x, "refused", x.load(0, 0, 0, 0, 100, 100), 5);
        CHECK.refused(x, "refused", x.grading(9, 0, 0, 100), 2);
        CHECK.due(x, "load", x.load(0, 0, 1, 0, 5, 12), 3, 0);
    }

    private static void gradings() {
        PrairiePool x = pool(1, 1, 1000);
        x.load(0, 0, 1, 0, 7, 7);
        CHECK.refused(x, "grading of no event", x.grading(1, 0, 0, 7), 2);
        CHECK.refused(x, "grading of -1", x.grading(-1, 0, 0, 7), 2);
        CHECK.refused(x, "grading by 6", x.grading(0, 6, 0, 7), 2);
        CHECK.refused(x, "grading by -1", x.grading(0, -1, 0, 7), 2);
        CHECK.refused(x, "grading to 6", x.grading(0, 0, 6, 7), 2);
        CHECK.refused(x, "grading to -1", x.grading(0, 0, -1, 600), 2);
        CHECK.refused(x, "grading known by 520", x.grading(0, 0, 0, 520), 5);
        CHECK.refused(x, "grading known by -1", x.grading(0, 0, 0, -1), 5);
        CHECK.refused(x, "grading gone", x.grading(0, 0, 0, 6), 12);
        for (int i = 0; i < 100; i++) {
            CHECK.due(x, "grading", x.grading(0, i % 6, i % 5, 7 + i), true, 0);
        }
        CHECK.refused(x, "a 101st grading", x.grading(0, 0, 0, 519), 7);
        CHECK.refused(x, "a 101st grading, gone", x.grading(0, 0, 0, 1), 7);
        CHECK.refused(x, "a 101st grading that can't be", x.grading(0, 0, 0, 520), 5);
        for (int i = 0; i < 100; i++) {
            CHECK.due("grade", x.grade(0, 7 + i), i % 5);
        }
    }

    private static void grades() {
        PrairiePool x = pool(1, 1, 1000);
        CHECK.refused(x, "grade of none", x.grade(0, 0), 2);
        x.load(0, 0, 1, 0, 3, 8);
        CHECK.refused(x, "grade by -1", x.grade(0, -1), 5);
        CHECK.refused(x, "grade by 520", x.grade(0, 520), 5);
        CHECK.refused(x, "grade of -1", x.grade(-1, 520), 2);
        CHECK.refused(x, "grade ahead of KNOWN", x.grade(0, 7), 8);
        CHECK.refused(x, "grade in its week", x.grade(0, 3), 8);
        CHECK.due(x, "grade when KNOWN", x.grade(0, 8), 5, 0);
        x.grading(0, 1, 2, 9);
        x.grading(0, 3, 4, 9);
        CHECK.due(x, "grade by 8", x.grade(0, 8), 5, 0);
        CHECK.due(x, "of several, that told latest", x.grade(0, 9), 4, 0);
    }

    private static void ranks() {
        PrairiePool x = pool(2, 1, 100000);
        x.load(1, 0, 200, 100, 60, 60);
        x.load(0, 0, 5, 0, 61, 61);
        x.grading(0, 2, 3, 61);
        x.grading(0, 4, 1, 61);
        x.grading(0, 1, 2, 61);
        CHECK.due("without acts the latest", x.grade(0, 61), 2);
        Check.acts(x, "rank: grader;", 0);
        CHECK.due("the highest grader", x.grade(0, 61), 1);
        Check.acts(x, "rank: 0 - grade;", 60);
        CHECK.due("of the week of the LOAD", x.grade(0, 61), 1);
        Check.acts(x, "rank: if week = 60 and year = 1 and bushels = 180 and district = 1 "
                + "and acres = 0 and debt = 0 and price = 0 then grade else 0;", 60);
        CHECK.due("what rank is told", x.grade(0, 61), 3);
        CHECK.due("another LOAD", x.grade(1, 61), 5);
        // Cut to bounds: both are the same, so the latest counts.
        PrairiePool y = pool(1, 1, 1000);
        y.load(0, 0, 1, 0, 0, 0);
        Check.acts(y, "rank: if grader = 0 then 999999 * 999999 else 999999 + 1;", 0);
        y.grading(0, 0, 1, 0);
        y.grading(0, 1, 2, 0);
        CHECK.due("most rank", y.grade(0, 0), 2);
        PrairiePool z = pool(1, 1, 1000);
        z.load(0, 0, 1, 0, 0, 0);
        Check.acts(z, "rank: if grader = 0 then 0 - 999999 * 2 else 0 - 999999 - 1;", 0);
        z.grading(0, 1, 1, 0);
        z.grading(0, 0, 2, 0);
        CHECK.due("least rank", z.grade(0, 0), 2);
    }

    private static void rankAsItComes() {
        PrairiePool x = pool(1, 1, 1000);
        Check.acts(x, "rank: 9 - grader;", 0);
        x.load(0, 0, 1, 0, 0, 0);
        x.grading(0, 1, 1, 0);
        CHECK.due("one", x.grade(0, 0), 1);
        x.grading(0, 0, 2, 0);
        CHECK.due("of a greater rank", x.grade(0, 0), 2);
        x.grading(0, 5, 3, 0);
        CHECK.due("of a lesser rank", x.grade(0, 0), 2);
        // Where rank is none it is 0.
        PrairiePool y = pool(1, 1, 1000);
        Check.acts(y, "rank: if grader = 0 then 1 else if grader = 1 then 1 / 0 else 0;", 0);
        y.load(0, 0, 1, 0, 0, 0);
        y.grading(0, 0, 0, 0);
        y.grading(0, 1, 1, 0);
        CHECK.due("1 is above none", y.grade(0, 0), 0);
        y.load(0, 0, 1, 0, 0, 0);
        y.grading(1, 1, 1, 0);
        y.grading(1, 2, 2, 0);
        CHECK.due("none is as 0", y.grade(1, 0), 2);
    }

    private static void docking() {
        PrairiePool x = pool(2, 1, 1000000);
        x.load(0, 0, 999, 1, 0, 0);
        CHECK.due("less than one is DOCKED", x.sum(0, 0, 0), 0);
        x.load(0, 0, 1000, 1, 0, 0);
        CHECK.due("one is DOCKED", x.sum(0, 0, 0), 1);
        x.load(0, 0, 10000, 1000, 0, 0);
        CHECK.due("all is DOCKED", x.sum(0, 0, 0), 10001);
        x.load(1, 0, 7, 500, 0, 0);
        CHECK.due("rounded down", x.sum(1, 0, 0), 3);
        CHECK.due("of all", x.sum(-1, 0, 0), 10004);
        CHECK.due("bin of 0", x.bin(0, 5, 0, 0, 0), 1998);
        CHECK.due("bin of 1", x.bin(0, 5, 0, 1, 0), 4);
    }

    private static void room() {
        PrairiePool x = pool(2, 2, 100);
        x.load(0, 0, 100, 0, 0, 0);
        CHECK.due("it is full", x.bin(0, 5, 0, 0, 0), 100);
        CHECK.due("nothing is TURNED away", x.sum(-1, 1, 0), 0);
        x.load(1, 0, 30, 0, 60, 60);
        CHECK.due("another year's too", x.sum(1, 1, 60), 30);
        CHECK.due("nothing came", x.bin(0, 5, 1, 1, 60), 0);
        x.load(1, 1, 130, 100, 60, 60);
        CHECK.due("what is too much, of NET", x.sum(1, 1, 60), 47);
        CHECK.due("what came", x.bin(1, 5, 1, 1, 60), 100);
        CHECK.due("of all", x.sum(-1, 1, 60), 47);
        CHECK.due("of the other", x.sum(0, 1, 60), 0);
        CHECK.due("DOCKED is not TURNED", x.sum(1, 0, 60), 13);
    }

    private static void roomComesBack() {
        PrairiePool x = pool(1, 1, 100);
        x.load(0, 0, 100, 0, 0, 0);
        x.car(0, 0, 5, 0, 30, 1, 1);
        x.load(0, 0, 50, 0, 2, 2);
        CHECK.due("30 had room", x.sum(0, 1, 2), 20);
        x.spoil(0, 5, 0, 60, 3, 3);
        x.load(0, 0, 100, 0, 4, 4);
        CHECK.due("60 had room", x.sum(0, 1, 4), 60);
        CHECK.due("it is full again", x.bin(0, 5, 0, -1, 4), 100);
        // As known otherwise, another GRADE's CAR finds nothing, and so there is less room.
        x.grading(0, 0, 1, 5);
        CHECK.due("grade 5 left 0, so 50 were too much", x.sum(0, 1, 5), 150);
        CHECK.due("as known by then", x.sum(0, 1, 4), 60);
    }

    private static void parting() {
        PrairiePool x = pool(3, 1, 1000);
        x.load(0, 0, 10, 0, 0, 0);
        x.load(1, 0, 20, 0, 0, 0);
        x.load(2, 0, 30, 0, 0, 0);
        // 7 of 60: 1 rest 10, 2 rest 20, 3 rest 30: the one left to farm 2.
        x.car(0, 0, 5, 0, 7, 0, 0);
        CHECK.due("part of 0", x.port(0, 5, 0, 0, 0), 1);
        CHECK.due("part of 1", x.port(0, 5, 0, 1, 0), 2);
        CHECK.due("part of 2", x.port(0, 5, 0, 2, 0), 4);
        CHECK.due("all", x.port(0, 5, 0, -1, 0), 7);
        CHECK.due("left of 0", x.bin(0, 5, 0, 0, 0), 9);
        CHECK.due("left of 1", x.bin(0, 5, 0, 1, 0), 18);
        CHECK.due("left of 2", x.bin(0, 5, 0, 2, 0), 26);
        CHECK.due("left", x.bin(0, 5, 0, -1, 0), 53);
        // 4 of 6: 0 rest 4, 1 rest 2, 2 rest 0: the one left to who has least.
        PrairiePool y = pool(3, 1, 1000);
        y.load(0, 0, 1, 0, 0, 0);
        y.load(1, 0, 2, 0, 0, 0);
        y.load(2, 0, 3, 0, 0, 0);
        y.spoil(0, 5, 0, 4, 0, 0);
        CHECK.due("spoilt of 0", y.sum(0, 3, 0), 1);
        CHECK.due("spoilt of 1", y.sum(1, 3, 0), 1);
        CHECK.due("spoilt of 2", y.sum(2, 3, 0), 2);
        // One of one.
        PrairiePool z = pool(3, 1, 1000);
        z.load(2, 0, 1, 0, 0, 0);
        z.car(0, 0, 5, 0, 1, 0, 0);
        z.sale(0, 5, 0, 1, 1, 0, 0);
        CHECK.due("sold of 2", z.sum(2, 2, 0), 1);
    }

    private static void partingTies() {
        PrairiePool x = pool(20, 1, 100000);
        for (int farm = 19; farm >= 0; farm--) {
            x.load(farm, 0, 10, 0, 0, 0);
        }
        // 7 of 200: all have the same rests, so the first seven get one.
        x.car(0, 1, 5, 0, 7, 0, 0);
        for (int farm = 0; farm < 20; farm++) {
            CHECK.due("part of " + farm, x.port(1, 5, 0, farm, 0), farm < 7 ? 1 : 0);
        }
        // 13 of 193: those with 10 have the greater rests.
        x.spoil(0, 5, 0, 13, 0, 0);
        for (int farm = 0; farm < 20; farm++) {
            CHECK.due("spoilt of " + farm, x.sum(farm, 3, 0), farm < 7 ? 0 : 1);
            CHECK.due("left of " + farm, x.bin(0, 5, 0, farm, 0), 9);
        }
    }

    private static void sharesMoveOn() {
        PrairiePool x = pool(2, 2, 1000);
        x.load(0, 0, 10, 0, 0, 0);
        x.load(1, 1, 20, 0, 0, 0);
        x.car(0, 0, 5, 0, 10, 0, 0);
        x.car(1, 0, 5, 0, 20, 0, 0);
        CHECK.due("at the port", x.port(0, 5, 0, -1, 0), 30);
        CHECK.due("at the other", x.port(1, 5, 0, -1, 0), 0);
        x.sale(1, 5, 0, 6, 5, 0, 0);
        CHECK.due("nothing sold", x.sum(-1, 2, 0), 0);
        x.sale(0, 5, 0, 6, 5, 0, 0);
        CHECK.due("sold of 0", x.sum(0, 2, 0), 2);
        CHECK.due("sold of 1", x.sum(1, 2, 0), 4);
        CHECK.due("left of 0", x.port(0, 5, 0, 0, 0), 8);
        CHECK.due("left of 1", x.port(0, 5, 0, 1, 0), 16);
        CHECK.due("SHORT", x.sum(-1, 4, 0), 6);
    }

    private static void taking() {
        PrairiePool x = pool(1, 1, 1000);
        x.load(0, 0, 50, 0, 0, 0);
        x.car(0, 0, 4, 0, 5, 0, 0);
        CHECK.due("of another GRADE", x.sum(-1, 4, 0), 5);
        x.car(0, 0, 5, 1, 5, 0, 0);
        CHECK.due("of another YEAR", x.sum(-1, 4, 0), 10);
        x.car(0, 0, 5, 0, 60, 0, 0);
        CHECK.due("what lacks", x.sum(-1, 4, 0), 20);
        CHECK.due("all at the port", x.port(0, 5, 0, 0, 0), 50);
        CHECK.due("an empty bin", x.bin(0, 5, 0, 0, 0), 0);
        x.spoil(0, 5, 0, 1, 0, 0);
        CHECK.due("nothing to spoil", x.sum(-1, 4, 0), 21);
        x.sale(0, 5, 0, 51, 1, 0, 0);
        CHECK.due("a sale that lacks", x.sum(-1, 4, 0), 22);
        CHECK.due("sold", x.sum(0, 2, 0), 50);
        CHECK.due("an empty port", x.port(0, 5, 0, -1, 0), 0);
    }

    // LOADS of 1, 2 and so on bushels, in each third YEAR to each ELEVATOR, of GRADES 0, 2 and 4.
    private static PrairiePool apart() {
        PrairiePool x = pool(2, 8, 1000000);
        int n = 0;
        for (int year = 0; year < 10; year += 3) {
            for (int elevator = 0; elevator < 8; elevator++) {
                for (int i = 0; i < 3; i++) {
                    int load = x.load(1, elevator, 1 + n, 0, year * 52, year * 52);
                    x.grading(load, 0, 2 * i, year * 52);
                    n++;
                }
            }
        }
        return x;
    }

    private static void placesAreApart() {
        int n = 0;
        for (int year = 0; year < 10; year++) {
            // An object answers no more than 512 calls.
            PrairiePool x = apart();
            for (int elevator = 0; elevator < 8; elevator++) {
                for (int grade = 0; grade < 6; grade++) {
                    boolean has = year % 3 == 0 && grade % 2 == 0;
                    n += has ? 1 : 0;
                    CHECK.due("BIN " + elevator + " " + grade + " " + year,
                            x.bin(elevator, grade, year, 1, 519), has ? n : 0);
                    CHECK.due("of the other FARM", x.bin(elevator, grade, year, 0, 519), 0);
                }
            }
        }
        PrairiePool x = apart();
        x.car(7, 0, 4, 9, 10, 500, 500);
        x.car(7, 1, 2, 9, 20, 500, 500);
        for (int port = 0; port < 2; port++) {
            for (int grade = 0; grade < 6; grade++) {
                for (int year = 0; year < 10; year++) {
                    int want = year != 9 ? 0 : port == 0 && grade == 4 ? 10 : port == 1 && grade == 2 ? 20 : 0;
                    CHECK.due("PORT " + port + " " + grade + " " + year, x.port(port, grade, year, 1, 519), want);
                }
            }
        }
    }

    private static void asManyPlacesAsEvents() {
        PrairiePool x = pool(20, 8, 1000000);
        for (int i = 0; i < 100; i++) {
            int week = i / 10 * 52;
            int load = x.load(19 - i % 20, i % 10 % 8, 10 + i, 0, week, week);
            x.grading(load, 0, i % 10 / 8, week);
        }
        for (int i = 0; i < 20; i++) {
            CHECK.due(x, "car", x.car(i % 2, i % 2, 0, i / 2, 1 + i, 519, 519), 100 + i, 0);
        }
        for (int i = 0; i < 100; i++) {
            int taken = i % 10 < 2 ? 1 + i / 10 * 2 + i % 10 : 0;
            CHECK.due("BIN of LOAD " + i, x.bin(i % 10 % 8, i % 10 / 8, i / 10, -1, 519), 10 + i - taken);
            CHECK.due("of its FARM", x.bin(i % 10 % 8, i % 10 / 8, i / 10, 19 - i % 20, 519), 10 + i - taken);
        }
        for (int i = 0; i < 20; i++) {
            CHECK.due("PORT of CAR " + i, x.port(i % 2, 0, i / 2, -1, 519), 1 + i);
        }
        CHECK.due("SHORT", x.sum(-1, 4, 519), 0);
    }

    private static void regrading() {
        PrairiePool x = pool(2, 1, 1000);
        x.load(0, 0, 40, 0, 0, 0);
        x.load(1, 0, 40, 0, 0, 0);
        x.car(0, 0, 5, 0, 40, 1, 1);
        CHECK.due("half of each", x.port(0, 5, 0, 0, 1), 20);
        x.grading(0, 0, 2, 5);
        CHECK.due("as known later, the CAR had only that of 1", x.port(0, 5, 0, 1, 5), 40);
        CHECK.due("and none of 0", x.port(0, 5, 0, 0, 5), 0);
        CHECK.due("which lies in its bin", x.bin(0, 2, 0, 0, 5), 40);
        CHECK.due("as known by then it is as it was", x.port(0, 5, 0, 0, 4), 20);
        CHECK.due("nothing SHORT", x.sum(-1, 4, 5), 0);
        x.grading(1, 0, 3, 6);
        CHECK.due("all SHORT", x.sum(-1, 4, 6), 40);
    }

    private static void asKnown() {
        PrairiePool x = pool(1, 1, 1000);
        x.load(0, 0, 10, 0, 51, 52);
        x.load(0, 0, 20, 0, 52, 60);
        CHECK.due("not known yet", x.bin(0, 5, 0, -1, 51), 0);
        CHECK.due("known, of the YEAR of its WEEK", x.bin(0, 5, 0, -1, 52), 10);
        CHECK.due("the next year's", x.bin(0, 5, 1, -1, 59), 0);
        CHECK.due("the next year's, known", x.bin(0, 5, 1, -1, 60), 20);
        CHECK.due("at the end", x.bin(0, 5, 1, 0, 519), 20);
    }

    private static void asking() {
        PrairiePool x = pool(1, 1, 1000);
        CHECK.refused(x, "bin of no elevator", x.bin(1, 0, 10, 0, 0), 2);
        CHECK.refused(x, "bin of elevator -1", x.bin(-1, 0, 0, 0, 0), 2);
        CHECK.refused(x, "bin of grade 6", x.bin(0, 6, 0, 0, 0), 2);
        CHECK.refused(x, "bin of grade -1", x.bin(0, -1, 0, 0, 0), 2);
        CHECK.refused(x, "bin of farm 1", x.bin(0, 0, 0, 1, 0), 2);
        CHECK.refused(x, "bin of farm -2", x.bin(0, 0, 0, -2, 0), 2);
        CHECK.refused(x, "bin of year 10", x.bin(0, 0, 10, 0, 0), 5);
        CHECK.refused(x, "bin of year -1", x.bin(0, 0, -1, 0, 0), 5);
        CHECK.refused(x, "bin by 520", x.bin(0, 0, 0, 0, 520), 5);
        CHECK.refused(x, "bin by -1", x.bin(0, 0, 0, -1, -1), 5);
        CHECK.due(x, "bin", x.bin(0, 0, 9, -1, 519), 0, 0);
        CHECK.refused(x, "port 2", x.port(2, 0, 0, 0, 0), 2);
        CHECK.refused(x, "port -1", x.port(-1, 0, 0, 0, 0), 2);
        CHECK.refused(x, "port of grade 6", x.port(0, 6, 0, 0, 0), 2);
        CHECK.refused(x, "port of farm 1", x.port(0, 0, 0, 1, 0), 2);
        CHECK.refused(x, "port of farm -2", x.port(0, 0, 0, -2, 0), 2);
        CHECK.refused(x, "port of year 10", x.port(0, 0, 10, 0, 0), 5);
        CHECK.refused(x, "port by 520", x.port(0, 0, 0, 0, 520), 5);
        CHECK.due(x, "port", x.port(1, 5, 9, 0, 519), 0, 0);
        CHECK.refused(x, "sum of farm 1", x.sum(1, 0, 0), 2);
        CHECK.refused(x, "sum of farm -2", x.sum(-2, 9, 0), 2);
        CHECK.refused(x, "sum of what 5", x.sum(0, 5, 0), 5);
        CHECK.refused(x, "sum of what -1", x.sum(-1, -1, 0), 5);
        CHECK.refused(x, "sum of what 4 of a farm", x.sum(0, 4, 0), 5);
        CHECK.refused(x, "sum by 520", x.sum(0, 0, 520), 5);
        CHECK.due(x, "sum of what 4", x.sum(-1, 4, 0), 0, 0);
        CHECK.due(x, "sum of what 3", x.sum(0, 3, 0), 0, 0);
    }
}
