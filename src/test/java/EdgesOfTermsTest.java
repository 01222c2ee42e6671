/** Part 1 of the document and promises 1 to 17: a test of its own for each sentence that names an edge. */
public final class EdgesOfTermsTest {
    private static final Check CHECK = new Check("EdgesOfTermsTest");
    private static final int MIN = Integer.MIN_VALUE;
    private static final int MAX = Integer.MAX_VALUE;

    public static void main(String[] args) {
        CHECK.says("TRAYS, 0 to 3, are MISSING at first", EdgesOfTermsTest::traysAtFirst);
        CHECK.says("rows of numbers of 8 bits (sort 0), 16 (1), 32 (2) or 64 (3), with sign; what is written is cut"
                + " to these", EdgesOfTermsTest::cut);
        CHECK.says("A TRAY is a row of so many numbers (at most 40; 5), all 0", EdgesOfTermsTest::longestTray);
        CHECK.says("come to place j on of another one, or the same, as they were", EdgesOfTermsTest::pouredOnItself);
        CHECK.says("1, 3 (either), 11, 6, 4, asked in this order", EdgesOfTermsTest::pouredInOrder);
        CHECK.says("WEEKS are 0 to 519; the YEAR of one is it by 52, rounded down (0 to 9)",
                EdgesOfTermsTest::yearsOfWeeks);
        CHECK.says("GRADES 0 to 5, GRADERS 0 to 5, DISTRICTS 0 to 5, PORTS 0 and 1", EdgesOfTermsTest::fewNumbers);
        CHECK.says("FARMS, at most 20, numbered as they come: a DISTRICT, ACRES (1 to 5,000), a DEBT (0 to 100,000)",
                EdgesOfTermsTest::farms);
        CHECK.says("ELEVATORS, at most 8, numbered as they come: a DISTRICT, ROOM (1 to 1,000,000 bushels)",
                EdgesOfTermsTest::elevators);
        events();
        loads();
        played();
        CHECK.end();
    }

    private static void events() {
        CHECK.says("EVENTS, at most 120, numbered as they come", EdgesOfTermsTest::mostEvents);
        CHECK.says("in a WEEK not ahead of that of the EVENT ahead", EdgesOfTermsTest::weeksInOrder);
        CHECK.says("KNOWN by a WEEK not ahead of its own", EdgesOfTermsTest::knownInItsWeek);
        CHECK.says("not ahead of what was KNOWN latest (of EVENTS and GRADINGS together)",
                EdgesOfTermsTest::knownInOrder);
        CHECK.says("CAR: from an ELEVATOR to a PORT, of a GRADE and a YEAR, so many bushels (1 to 100,000)",
                EdgesOfTermsTest::carBushels);
        CHECK.says("SALE: at a PORT, of a GRADE and a YEAR, so many bushels (1 to 100,000), for so many pence each"
                + " (0 to 1,000)", EdgesOfTermsTest::saleBushels);
        CHECK.says("SPOIL: at an ELEVATOR, of a GRADE and a YEAR, so many bushels (1 to 100,000)",
                EdgesOfTermsTest::spoilBushels);
        CHECK.says("GRADINGS, at most 100", EdgesOfTermsTest::mostGradings);
        CHECK.says("A GRADING of a LOAD (by its EVENT's number)", EdgesOfTermsTest::gradingsOfOthers);
        CHECK.says("that of its GRADINGS KNOWN by then with the greatest RANK (ACTS); of several that told latest; 5"
                + " without any", EdgesOfTermsTest::gradeOfSeveral);
        CHECK.says("The GRADE of a LOAD, as known by a WEEK (2; 5; 8: it is not KNOWN by then)",
                EdgesOfTermsTest::gradeNotKnown);
    }

    private static void loads() {
        CHECK.says("LOAD: of a FARM to an ELEVATOR, so many bushels (1 to 10,000), of which of each 1,000 so many are"
                + " DOCKED (0 to 1,000)", EdgesOfTermsTest::loadBushels);
        CHECK.says("NET is what is left, the DOCKED rounded down", EdgesOfTermsTest::net);
        CHECK.says("if the ELEVATOR would have more than ROOM, what is too much is TURNED away (a LOAD's last"
                + " bushels)", EdgesOfTermsTest::noMoreThanRoom);
        CHECK.says("A LOAD comes to its ELEVATOR's BIN of its GRADE (as known by that WEEK, not only then) and the"
                + " YEAR of its WEEK", EdgesOfTermsTest::gradeAsKnown);
    }

    private static void played() {
        CHECK.says("As known by a WEEK, what was KNOWN by then is played in its order", EdgesOfTermsTest::knownByThen);
        CHECK.says("A CAR takes as many from the BIN as it says, or all if there are fewer (what lacks is SHORT)",
                EdgesOfTermsTest::carTakesAll);
        CHECK.says("each FARM's part by what it has there, rounded down, what is left by one to the greatest rests (of"
                + " like ones the lesser FARM)", EdgesOfTermsTest::parts);
        CHECK.says("Likewise a SALE from the PORT's (sold), and SPOIL from the BIN (spoilt)",
                EdgesOfTermsTest::saleAndSpoilTakeAll);
        CHECK.says("Bushels of a FARM (NONE: of all) in the BIN of an ELEVATOR", EdgesOfTermsTest::binOfAll);
        CHECK.says("Bushels of a FARM (NONE: of all) at a PORT", EdgesOfTermsTest::portOfAll);
        CHECK.says("Of a FARM (NONE: of all), all told as known by a WEEK, what 0: bushels DOCKED, 1: TURNED away, 2:"
                + " sold, 3: spoilt; 4: SHORT (of NONE alone)", EdgesOfTermsTest::sums);
    }

    private static PrairiePool pool(int farms, int room) {
        PrairiePool x = new PrairiePool();
        for (int i = 0; i < farms; i++) {
            x.farm(i % 6, 1, 0);
        }
        x.elevator(0, room);
        return x;
    }

    // ---- TRAYS

    private static void traysAtFirst() {
        PrairiePool x = new PrairiePool();
        for (int tray = 0; tray < 4; tray++) {
            CHECK.refused(x, "read(" + tray + ", 0)", x.read(tray, 0), 3);
            CHECK.refused(x, "write(" + tray + ", 0, 1)", x.write(tray, 0, 1), 3);
            CHECK.refused(x, "pour(" + tray + ", ..)", x.pour(tray, 0, tray, 0, 0), 3);
            CHECK.refused(x, "warm(" + tray + ", ..)", x.warm(tray, tray, 1), 3);
            CHECK.refused(x, "send(" + tray + ", ..)", x.send(tray, 1, tray, 1, tray), 3);
        }
        for (int tray : new int[] {-1, 4, MIN, MAX}) {
            CHECK.refused(x, "tray(" + tray + ", ..)", x.tray(tray, 0, 1), 1);
            CHECK.refused(x, "read(" + tray + ", 0)", x.read(tray, 0), 1);
            CHECK.refused(x, "write(" + tray + ", 0, 1)", x.write(tray, 0, 1), 1);
        }
        for (int tray = 0; tray < 4; tray++) {
            CHECK.due(x, "tray(" + tray + ", 3, 1)", x.tray(tray, 3, 1), true, 0);
            CHECK.due(x, "read(" + tray + ", 0)", x.read(tray, 0), 0, 0);
            CHECK.due("the next is MISSING still", x.read((tray + 1) % 4, 0), tray == 3 ? 0 : -1);
        }
    }

    private static void cut() {
        for (int sort = 0; sort < 4; sort++) {
            PrairiePool x = new PrairiePool();
            x.tray(1, sort, 3);
            long top = (1L << (8 << sort) - 1) - 1;
            row(x, sort, top, top);
            row(x, sort, top + 1, -top - 1);
            row(x, sort, -top - 1, -top - 1);
            row(x, sort, -top - 2, top);
            row(x, sort, 2 * top + 1, -1);
            row(x, sort, 2 * top + 2, 0);
            row(x, sort, 2 * top + 3, 1);
            row(x, sort, Long.MAX_VALUE, sort == 3 ? Long.MAX_VALUE : -1);
            row(x, sort, Long.MIN_VALUE, sort == 3 ? Long.MIN_VALUE : 0);
        }
        PrairiePool x = new PrairiePool();
        for (int sort : new int[] {-1, 4, MIN, MAX}) {
            CHECK.refused(x, "tray(0, " + sort + ", 1)", x.tray(0, sort, 1), 1);
        }
        CHECK.refused(x, "a TRAY of no such sort is MISSING still", x.read(0, 0), 3);
    }

    private static void row(PrairiePool x, int sort, long v, long want) {
        CHECK.due(x, "write of " + v, x.write(1, 1, v), true, 0);
        CHECK.due(x, "read of sort " + sort + " behind write of " + v, x.read(1, 1), want, 0);
        CHECK.due("the place ahead", x.read(1, 0), 0);
        CHECK.due("the place behind", x.read(1, 2), 0);
    }

    private static void longestTray() {
        for (int sort = 0; sort < 4; sort++) {
            PrairiePool x = new PrairiePool();
            CHECK.due(x, "tray of 40", x.tray(sort, sort, 40), true, 0);
            for (int place = 0; place < 40; place++) {
                CHECK.due(x, "read(.., " + place + ")", x.read(sort, place), 0, 0);
                x.write(sort, place, 7);
            }
            CHECK.refused(x, "read of place 40", x.read(sort, 40), 4);
            CHECK.refused(x, "tray of 41", x.tray(sort, sort, 41), 5);
            CHECK.refused(x, "tray of MAX", x.tray(sort, sort, MAX), 5);
            CHECK.refused(x, "tray of -1", x.tray(sort, sort, -1), 6);
            CHECK.due("none of these made it anew", x.read(sort, 39), 7);
            CHECK.due(x, "tray of 0", x.tray(sort, sort, 0), true, 0);
            CHECK.refused(x, "an empty TRAY has no place 0, but is not MISSING", x.read(sort, 0), 4);
            CHECK.refused(x, "nor can one be written", x.write(sort, 0, 1), 4);
            CHECK.due(x, "tray of 1", x.tray(sort, sort, 1), true, 0);
            CHECK.due(x, "all 0 again", x.read(sort, 0), 0, 0);
            CHECK.refused(x, "read of place 1", x.read(sort, 1), 4);
        }
    }

    private static PrairiePool counted(int sort) {
        PrairiePool x = new PrairiePool();
        x.tray(0, sort, 5);
        x.tray(1, sort, 3);
        for (int place = 0; place < 5; place++) {
            x.write(0, place, 10 + place);
        }
        return x;
    }

    private static void holds(PrairiePool x, int tray, long... want) {
        for (int place = 0; place < want.length; place++) {
            CHECK.due(x, "read(" + tray + ", " + place + ")", x.read(tray, place), want[place], 0);
        }
        CHECK.refused(x, "the place behind the last", x.read(tray, want.length), 4);
    }

    private static void pouredOnItself() {
        for (int sort = 0; sort < 4; sort++) {
            PrairiePool x = counted(sort);
            CHECK.due(x, "one on", x.pour(0, 0, 0, 1, 4), true, 0);
            holds(x, 0, 10, 10, 11, 12, 13);
            CHECK.due(x, "one back", x.pour(0, 1, 0, 0, 4), true, 0);
            holds(x, 0, 10, 11, 12, 13, 13);
            CHECK.due(x, "all to where they are", x.pour(0, 0, 0, 0, 5), true, 0);
            holds(x, 0, 10, 11, 12, 13, 13);
            CHECK.due(x, "the last three to all of another", x.pour(0, 2, 1, 0, 3), true, 0);
            holds(x, 1, 12, 13, 13);
            CHECK.due(x, "the last place alone", x.pour(0, 0, 1, 2, 1), true, 0);
            holds(x, 1, 12, 13, 10);
            holds(x, 0, 10, 11, 12, 13, 13);
        }
    }

    private static void pouredInOrder() {
        PrairiePool x = counted(2);
        x.tray(2, 1, 5);
        for (int tray : new int[] {-1, 4, MIN, MAX}) {
            CHECK.refused(x, "from no TRAY", x.pour(tray, 9, 3, 9, -1), 1);
            CHECK.refused(x, "to no TRAY", x.pour(3, 9, tray, 9, -1), 1);
        }
        CHECK.refused(x, "from a MISSING one", x.pour(3, 9, 0, 9, -1), 3);
        CHECK.refused(x, "to a MISSING one", x.pour(0, 9, 3, 9, -1), 3);
        CHECK.refused(x, "from a MISSING one to itself", x.pour(3, 0, 3, 0, 0), 3);
        CHECK.refused(x, "unlike sorts, below 0, out of place", x.pour(0, 9, 2, 9, -1), 11);
        CHECK.refused(x, "unlike sorts, out of place", x.pour(0, 9, 2, 9, 1), 11);
        CHECK.refused(x, "unlike sorts, of none", x.pour(0, 0, 2, 0, 0), 11);
        CHECK.refused(x, "below 0, out of place", x.pour(0, -1, 1, 9, -1), 6);
        CHECK.refused(x, "MIN", x.pour(0, 0, 1, 0, MIN), 6);
        CHECK.refused(x, "one too many to give", x.pour(0, 3, 0, 0, 3), 4);
        CHECK.refused(x, "one too many to take", x.pour(0, 0, 1, 1, 3), 4);
        CHECK.refused(x, "from -1", x.pour(0, -1, 1, 0, 1), 4);
        CHECK.refused(x, "to -1", x.pour(0, 0, 1, -1, 1), 4);
        CHECK.refused(x, "from behind the last", x.pour(0, 5, 1, 0, 1), 4);
        CHECK.refused(x, "to behind the last", x.pour(0, 0, 1, 3, 1), 4);
        CHECK.refused(x, "round on", x.pour(0, MAX, 1, MAX, MAX), 4);
        CHECK.refused(x, "round on to none", x.pour(0, 2, 1, 2, MAX), 4);
        holds(x, 0, 10, 11, 12, 13, 14);
        holds(x, 1, 0, 0, 0);
        CHECK.due(x, "none", x.pour(0, 0, 1, 0, 0), true, 0);
        CHECK.due(x, "none at the ends", x.pour(0, 5, 1, 3, 0), true, 0);
        CHECK.refused(x, "none from behind the end", x.pour(0, 6, 1, 0, 0), 4);
        CHECK.refused(x, "none to behind the end", x.pour(0, 0, 1, 4, 0), 4);
        holds(x, 1, 0, 0, 0);
    }

    // ---- what there is

    private static void yearsOfWeeks() {
        int[] weeks = {0, 51, 52, 103, 104, 259, 260, 467, 468, 519};
        PrairiePool x = pool(1, 1000000);
        for (int i = 0; i < weeks.length; i++) {
            CHECK.due(x, "load in " + weeks[i], x.load(0, 0, 1 << i, 0, weeks[i], weeks[i]), i, 0);
        }
        int[] want = {1 + 2, 4 + 8, 16, 0, 32, 64, 0, 0, 128, 256 + 512};
        for (int year = 0; year < 10; year++) {
            CHECK.due(x, "BIN of YEAR " + year, x.bin(0, 5, year, 0, 519), want[year], 0);
        }
        for (int week : new int[] {-1, 520, MIN, MAX}) {
            CHECK.refused(x, "load in " + week, x.load(0, 0, 1, 0, week, 519), 5);
            CHECK.refused(x, "load known by " + week, x.load(0, 0, 1, 0, 519, week), 5);
            CHECK.refused(x, "bin by " + week, x.bin(0, 5, 0, 0, week), 5);
            CHECK.refused(x, "price in " + week, x.price(week, 0), 5);
            CHECK.refused(x, "hangs in " + week, x.hangs(week), 5);
        }
        for (int year : new int[] {-1, 10, MIN, MAX}) {
            CHECK.refused(x, "bin of " + year, x.bin(0, 5, year, 0, 0), 5);
            CHECK.refused(x, "car of " + year, x.car(0, 0, 0, year, 1, 519, 519), 5);
            CHECK.refused(x, "sale of " + year, x.sale(0, 0, year, 1, 1, 519, 519), 5);
            CHECK.refused(x, "spoil of " + year, x.spoil(0, 0, year, 1, 519, 519), 5);
        }
    }

    private static void fewNumbers() {
        PrairiePool x = pool(1, 1000000);
        x.load(0, 0, 1, 0, 0, 0);
        for (int out : new int[] {-1, 6, MIN, MAX}) {
            CHECK.refused(x, "grading to GRADE " + out, x.grading(0, 0, out, 0), 2);
            CHECK.refused(x, "grading by GRADER " + out, x.grading(0, out, 0, 0), 2);
            CHECK.refused(x, "farm in DISTRICT " + out, x.farm(out, 1, 0), 2);
            CHECK.refused(x, "elevator in DISTRICT " + out, x.elevator(out, 1), 2);
            CHECK.refused(x, "car of GRADE " + out, x.car(0, 0, out, 0, 1, 0, 0), 2);
            CHECK.refused(x, "sale of GRADE " + out, x.sale(0, out, 0, 1, 1, 0, 0), 2);
            CHECK.refused(x, "spoil of GRADE " + out, x.spoil(0, out, 0, 1, 0, 0), 2);
            CHECK.refused(x, "bin of GRADE " + out, x.bin(0, out, 0, 0, 0), 2);
            CHECK.refused(x, "port of GRADE " + out, x.port(0, out, 0, 0, 0), 2);
            CHECK.refused(x, "paid of GRADE " + out, x.paid(0, out, 0, 0), 2);
            CHECK.refused(x, "result of DISTRICT", x.result(out == -1 ? -2 : out, 0), 2);
        }
        for (int out : new int[] {-1, 2, MIN, MAX}) {
            CHECK.refused(x, "car to PORT " + out, x.car(0, out, 0, 0, 1, 0, 0), 2);
            CHECK.refused(x, "sale at PORT " + out, x.sale(out, 0, 0, 1, 1, 0, 0), 2);
            CHECK.refused(x, "port " + out, x.port(out, 0, 0, 0, 0), 2);
        }
        for (int six = 0; six < 6; six++) {
            CHECK.due(x, "grading by GRADER " + six, x.grading(0, six, six, 0), true, 0);
            CHECK.due(x, "GRADE", x.grade(0, 0), six, 0);
            CHECK.due(x, "bin", x.bin(0, six, 0, 0, 0), 1, 0);
            CHECK.due(x, "farm in DISTRICT " + six, x.farm(six, 1, 0), six + 1, 0);
            CHECK.due(x, "elevator in DISTRICT " + six, x.elevator(six, 1), six + 1, 0);
        }
        for (int port = 0; port < 2; port++) {
            CHECK.due(x, "car to PORT " + port, x.car(0, port, 0, 0, 1, 0, 0), 1 + 2 * port, 0);
            CHECK.due(x, "sale at PORT " + port, x.sale(port, 0, 0, 1, 1, 0, 0), 2 + 2 * port, 0);
        }
    }

    private static void farms() {
        PrairiePool x = new PrairiePool();
        for (int acres : new int[] {0, -1, 5001, MIN, MAX}) {
            CHECK.refused(x, "ACRES " + acres, x.farm(0, acres, 0), 5);
        }
        for (int debt : new int[] {-1, 100001, MIN, MAX}) {
            CHECK.refused(x, "DEBT " + debt, x.farm(0, 1, debt), 5);
        }
        CHECK.refused(x, "none of these is there", x.vote(0, 1), 2);
        CHECK.due(x, "the least", x.farm(0, 1, 0), 0, 0);
        CHECK.due(x, "the greatest", x.farm(5, 5000, 100000), 1, 0);
        for (int i = 2; i < 20; i++) {
            CHECK.refused(x, "FARM " + i + " is not there", x.vote(i, 1), 2);
            CHECK.due(x, "farm", x.farm(0, 1, 0), i, 0);
            CHECK.due(x, "FARM " + i + " is there", x.vote(i, 1), true, 0);
        }
        CHECK.refused(x, "the 21st", x.farm(0, 1, 0), 7);
        CHECK.refused(x, "the 21st again", x.farm(5, 5000, 100000), 7);
        CHECK.refused(x, "the 21st with no ACRES", x.farm(0, 0, 0), 5);
        CHECK.refused(x, "the 21st in no DISTRICT", x.farm(6, 0, 0), 2);
        CHECK.refused(x, "FARM 20 is not there", x.vote(20, 1), 2);
    }

    private static void elevators() {
        PrairiePool x = new PrairiePool();
        for (int room : new int[] {0, -1, 1000001, MIN, MAX}) {
            CHECK.refused(x, "ROOM " + room, x.elevator(0, room), 5);
        }
        CHECK.refused(x, "none of these is there", x.turns(0, 1, 0), 2);
        CHECK.due(x, "the least", x.elevator(0, 1), 0, 0);
        CHECK.due(x, "the greatest", x.elevator(5, 1000000), 1, 0);
        for (int i = 2; i < 8; i++) {
            CHECK.refused(x, "ELEVATOR " + i + " is not there", x.turns(0, 1, i), 2);
            CHECK.due(x, "elevator", x.elevator(0, 5), i, 0);
            CHECK.due(x, "ELEVATOR " + i + " is there", x.turns(0, 1, i), 0, 0);
        }
        CHECK.refused(x, "the 9th", x.elevator(0, 1), 7);
        CHECK.refused(x, "the 9th without ROOM", x.elevator(0, 0), 5);
        CHECK.refused(x, "the 9th in no DISTRICT", x.elevator(-1, 0), 2);
        CHECK.refused(x, "ELEVATOR 8 is not there", x.turns(0, 1, 8), 2);
        // The greatest ROOM is filled by no run: 120 LOADS of 10,000 come to no more than 1,200,000.
        x.farm(0, 1, 0);
        for (int i = 0; i < 101; i++) {
            x.load(0, 1, 10000, 0, 0, 0);
        }
        CHECK.due("a million bushels", x.bin(1, 5, 0, -1, 0), 1000000);
        CHECK.due("TURNED away", x.sum(-1, 1, 0), 10000);
    }

    // ---- EVENTS

    private static int event(PrairiePool x, int kind, int week, int known) {
        return kind == 0 ? x.load(0, 0, 1, 0, week, known) : kind == 1 ? x.car(0, 0, 5, 0, 1, week, known)
                : kind == 2 ? x.sale(0, 5, 0, 1, 1, week, known) : x.spoil(0, 5, 0, 1, week, known);
    }

    private static void mostEvents() {
        for (int kind = 0; kind < 4; kind++) {
            PrairiePool x = pool(1, 1000000);
            for (int i = 0; i < 120; i++) {
                CHECK.due(x, "EVENT " + i, event(x, kind, 5, 5), i, 0);
            }
            for (int other = 0; other < 4; other++) {
                CHECK.refused(x, "the 121st", event(x, other, 5, 5), 7);
                CHECK.refused(x, "the 121st, in a WEEK that is gone", event(x, other, 4, 4), 7);
                CHECK.refused(x, "the 121st, KNOWN ahead of its WEEK", event(x, other, 6, 5), 5);
            }
            CHECK.refused(x, "the 121st of no FARM", x.load(1, 0, 0, 0, 5, 5), 2);
            CHECK.due("bushels", x.bin(0, 5, 0, -1, 5), kind == 0 ? 120 : 0);
            CHECK.due("SHORT", x.sum(-1, 4, 5), kind == 0 ? 0 : 120);
        }
    }

    private static void weeksInOrder() {
        for (int kind = 0; kind < 4; kind++) {
            for (int other = 0; other < 4; other++) {
                PrairiePool x = pool(1, 1000000);
                CHECK.due(x, "the first", event(x, kind, 7, 9), 0, 0);
                CHECK.refused(x, "one WEEK ahead", event(x, other, 6, 9), 12);
                CHECK.refused(x, "WEEK 0", event(x, other, 0, 9), 12);
                CHECK.due(x, "the same WEEK", event(x, other, 7, 9), 1, 0);
                CHECK.due(x, "one WEEK behind", event(x, other, 8, 9), 2, 0);
                CHECK.refused(x, "the WEEK of the EVENT ahead counts", event(x, kind, 7, 9), 12);
                CHECK.due(x, "the last WEEK", event(x, kind, 519, 519), 3, 0);
                CHECK.refused(x, "none is behind that", event(x, kind, 518, 519), 12);
                CHECK.due(x, "but in it", event(x, other, 519, 519), 4, 0);
            }
        }
    }

    private static void knownInItsWeek() {
        for (int kind = 0; kind < 4; kind++) {
            PrairiePool x = pool(1, 1000000);
            CHECK.refused(x, "KNOWN one WEEK ahead", event(x, kind, 7, 6), 5);
            CHECK.refused(x, "KNOWN by WEEK 0", event(x, kind, 519, 0), 5);
            CHECK.due(x, "KNOWN in its WEEK", event(x, kind, 7, 7), 0, 0);
            CHECK.refused(x, "KNOWN ahead of its WEEK, not of what was KNOWN", event(x, kind, 9, 8), 5);
            CHECK.refused(x, "KNOWN ahead of both", event(x, kind, 8, 6), 5);
            CHECK.refused(x, "and in a WEEK that is gone", event(x, kind, 6, 5), 5);
            CHECK.due(x, "KNOWN at the end", event(x, kind, 7, 519), 1, 0);
        }
    }

    private static void knownInOrder() {
        for (int kind = 0; kind < 4; kind++) {
            PrairiePool x = pool(1, 1000000);
            x.load(0, 0, 1, 0, 2, 6);
            CHECK.refused(x, "KNOWN ahead of an EVENT", event(x, kind, 3, 5), 12);
            CHECK.refused(x, "a GRADING KNOWN ahead of an EVENT", x.grading(0, 0, 0, 5), 12);
            CHECK.due(x, "a GRADING KNOWN with it", x.grading(0, 0, 0, 6), true, 0);
            CHECK.due(x, "KNOWN with both", event(x, kind, 3, 6), 1, 0);
            CHECK.due(x, "a GRADING KNOWN behind them", x.grading(0, 0, 0, 9), true, 0);
            CHECK.refused(x, "KNOWN ahead of the GRADING", event(x, kind, 4, 8), 12);
            CHECK.refused(x, "a GRADING KNOWN ahead of the GRADING", x.grading(0, 0, 0, 8), 12);
            CHECK.due(x, "KNOWN with the GRADING", event(x, kind, 4, 9), 2, 0);
            CHECK.due(x, "the GRADING's WEEK is none of an EVENT", event(x, kind, 4, 10), 3, 0);
            CHECK.refused(x, "a GRADING by WEEK 0", x.grading(0, 0, 0, 0), 12);
        }
    }

    private static void carBushels() {
        PrairiePool x = pool(1, 1000000);
        for (int bushels : new int[] {0, -1, 100001, MIN, MAX}) {
            CHECK.refused(x, "car of " + bushels, x.car(0, 0, 0, 0, bushels, 0, 0), 5);
        }
        CHECK.due(x, "car of 1", x.car(0, 0, 0, 0, 1, 0, 0), 0, 0);
        CHECK.due(x, "SHORT", x.sum(-1, 4, 0), 1, 0);
        CHECK.due(x, "car of 100,000", x.car(0, 0, 0, 0, 100000, 0, 0), 1, 0);
        CHECK.due(x, "SHORT", x.sum(-1, 4, 0), 100001, 0);
    }

    private static void saleBushels() {
        PrairiePool x = pool(1, 1000000);
        for (int bushels : new int[] {0, -1, 100001, MIN, MAX}) {
            CHECK.refused(x, "sale of " + bushels, x.sale(0, 0, 0, bushels, 1, 0, 0), 5);
        }
        for (int pence : new int[] {-1, 1001, MIN, MAX}) {
            CHECK.refused(x, "sale for " + pence, x.sale(0, 0, 0, 1, pence, 0, 0), 5);
        }
        x.load(0, 0, 2, 0, 0, 0);
        x.car(0, 0, 5, 0, 2, 0, 0);
        CHECK.due(x, "sale of 1 for 0", x.sale(0, 5, 0, 1, 0, 0, 0), 2, 0);
        CHECK.due(x, "CAME", x.paid(0, 5, 0, 0), 0, 0);
        CHECK.due(x, "sale of 100,000 for 1,000", x.sale(0, 5, 0, 100000, 1000, 0, 0), 3, 0);
        CHECK.due(x, "CAME of the one that was left", x.paid(0, 5, 0, 0), 1000, 0);
        CHECK.due(x, "SHORT", x.sum(-1, 4, 0), 99999, 0);
    }

    private static void spoilBushels() {
        PrairiePool x = pool(1, 1000000);
        for (int bushels : new int[] {0, -1, 100001, MIN, MAX}) {
            CHECK.refused(x, "spoil of " + bushels, x.spoil(0, 0, 0, bushels, 0, 0), 5);
        }
        CHECK.due(x, "spoil of 1", x.spoil(0, 0, 0, 1, 0, 0), 0, 0);
        CHECK.due(x, "spoil of 100,000", x.spoil(0, 0, 0, 100000, 0, 0), 1, 0);
        CHECK.due(x, "SHORT", x.sum(-1, 4, 0), 100001, 0);
    }

    private static void mostGradings() {
        PrairiePool x = pool(1, 1000000);
        x.load(0, 0, 1, 0, 3, 3);
        x.load(0, 0, 1, 0, 3, 3);
        for (int i = 0; i < 100; i++) {
            CHECK.due(x, "GRADING " + i, x.grading(i % 2, i % 6, i % 4, 4), true, 0);
        }
        CHECK.refused(x, "the 101st", x.grading(0, 0, 5, 4), 7);
        CHECK.refused(x, "the 101st, gone", x.grading(0, 0, 5, 3), 7);
        CHECK.refused(x, "the 101st by no WEEK", x.grading(0, 0, 5, 520), 5);
        CHECK.refused(x, "the 101st of no LOAD", x.grading(2, 0, 5, 520), 2);
        CHECK.due(x, "the latest of LOAD 0", x.grade(0, 4), 2, 0);
        CHECK.due(x, "the latest of LOAD 1", x.grade(1, 4), 3, 0);
        // All of them are ranked anew as a TEXT comes: those by the greatest GRADER, the latest of these.
        CHECK.due("a TEXT", Check.acts(x, "rank: grader;", 0), 1);
        CHECK.due(x, "GRADER 4 of LOAD 0", x.grade(0, 4), 94 % 4, 0);
        CHECK.due(x, "GRADER 5 of LOAD 1", x.grade(1, 4), 95 % 4, 0);
        CHECK.due(x, "an EVENT may come still", x.load(0, 0, 1, 0, 3, 4), 2, 0);
    }

    private static void gradingsOfOthers() {
        PrairiePool x = pool(1, 1000000);
        CHECK.refused(x, "ahead of any", x.grading(0, 0, 0, 0), 2);
        for (int kind = 0; kind < 4; kind++) {
            event(x, kind, 0, 0);
        }
        CHECK.due(x, "of a LOAD", x.grading(0, 0, 0, 0), true, 0);
        for (int other : new int[] {1, 2, 3, 4, -1, MIN, MAX}) {
            CHECK.refused(x, "grading of " + other, x.grading(other, 0, 0, 0), 2);
            CHECK.refused(x, "grade of " + other, x.grade(other, 0), 2);
        }
        CHECK.due(x, "a LOAD more", event(x, 0, 0, 0), 4, 0);
        CHECK.due(x, "of the last EVENT", x.grading(4, 0, 3, 0), true, 0);
        CHECK.due(x, "its GRADE", x.grade(4, 0), 3, 0);
    }

    private static void gradeOfSeveral() {
        PrairiePool x = pool(1, 1000000);
        x.load(0, 0, 1, 0, 0, 0);
        CHECK.due(x, "without any", x.grade(0, 519), 5, 0);
        x.grading(0, 2, 1, 3);
        CHECK.due(x, "one, not KNOWN yet", x.grade(0, 2), 5, 0);
        CHECK.due(x, "one, KNOWN in that WEEK", x.grade(0, 3), 1, 0);
        x.grading(0, 2, 4, 3);
        CHECK.due(x, "two of like rank in one WEEK", x.grade(0, 3), 4, 0);
        x.grading(0, 1, 0, 4);
        CHECK.due(x, "without a rank the latest", x.grade(0, 4), 0, 0);
        Check.acts(x, "rank: grader;", 0);
        CHECK.due(x, "the greatest rank, of two the latest", x.grade(0, 4), 4, 0);
        x.grading(0, 3, 2, 5);
        CHECK.due(x, "a greater rank that is not KNOWN yet", x.grade(0, 4), 4, 0);
        CHECK.due(x, "a greater rank", x.grade(0, 5), 2, 0);
    }

    private static void gradeNotKnown() {
        PrairiePool x = pool(1, 1000000);
        x.load(0, 0, 1, 0, 5, 8);
        CHECK.refused(x, "by WEEK 0", x.grade(0, 0), 8);
        CHECK.refused(x, "in its WEEK", x.grade(0, 5), 8);
        CHECK.refused(x, "a WEEK ahead", x.grade(0, 7), 8);
        CHECK.due(x, "by its WEEK", x.grade(0, 8), 5, 0);
        CHECK.due(x, "by the last WEEK", x.grade(0, 519), 5, 0);
        CHECK.refused(x, "by -1", x.grade(0, -1), 5);
        CHECK.refused(x, "by 520", x.grade(0, 520), 5);
        CHECK.refused(x, "of none by 520", x.grade(1, 520), 2);
    }

    // ---- LOADS

    private static void loadBushels() {
        PrairiePool x = pool(1, 1000000);
        for (int bushels : new int[] {0, -1, 10001, MIN, MAX}) {
            CHECK.refused(x, "load of " + bushels, x.load(0, 0, bushels, 0, 0, 0), 5);
        }
        for (int docked : new int[] {-1, 1001, MIN, MAX}) {
            CHECK.refused(x, "load DOCKED " + docked, x.load(0, 0, 1, docked, 0, 0), 5);
        }
        for (int none : new int[] {-1, 1, MIN, MAX}) {
            CHECK.refused(x, "load of FARM " + none, x.load(none, 0, 0, 0, 0, 0), 2);
            CHECK.refused(x, "load to ELEVATOR " + none, x.load(0, none, 0, 0, 0, 0), 2);
        }
        CHECK.due(x, "load of 1, DOCKED 0", x.load(0, 0, 1, 0, 0, 0), 0, 0);
        CHECK.due(x, "load of 10,000, DOCKED 1,000", x.load(0, 0, 10000, 1000, 0, 0), 1, 0);
        CHECK.due(x, "NET", x.bin(0, 5, 0, 0, 0), 1, 0);
        CHECK.due(x, "load of 10,000, DOCKED 0", x.load(0, 0, 10000, 0, 0, 0), 2, 0);
        CHECK.due(x, "NET", x.bin(0, 5, 0, 0, 0), 10001, 0);
        CHECK.due(x, "load of 1, DOCKED 1,000", x.load(0, 0, 1, 1000, 0, 0), 3, 0);
        CHECK.due(x, "NET", x.bin(0, 5, 0, 0, 0), 10001, 0);
        CHECK.due(x, "DOCKED", x.sum(0, 0, 0), 10001, 0);
    }

    private static void net() {
        int[][] rows = {{999, 1, 0}, {1000, 1, 1}, {1001, 1, 1}, {1999, 1, 1}, {2000, 1, 2}, {1, 999, 0}, {1, 1000, 1},
            {10000, 999, 9990}, {9999, 999, 9989}, {3, 333, 0}, {3, 334, 1}, {7, 500, 3}};
        for (int[] row : rows) {
            PrairiePool x = pool(1, 1000000);
            x.load(0, 0, row[0], row[1], 0, 0);
            String what = row[0] + " DOCKED " + row[1];
            CHECK.due(what, x.sum(0, 0, 0), row[2]);
            CHECK.due("NET of " + what, x.bin(0, 5, 0, 0, 0), row[0] - row[2]);
        }
    }

    private static void noMoreThanRoom() {
        for (int bushels = 9; bushels <= 11; bushels++) {
            PrairiePool x = pool(2, 10);
            x.load(0, 0, bushels, 0, 0, 0);
            CHECK.due("TURNED of " + bushels, x.sum(0, 1, 0), bushels - Math.min(10, bushels));
            CHECK.due("came of " + bushels, x.bin(0, 5, 0, 0, 0), Math.min(10, bushels));
            x.load(1, 0, 1, 0, 0, 0);
            CHECK.due("one more", x.sum(1, 1, 0), bushels < 10 ? 0 : 1);
            CHECK.due("the first FARM's stay", x.bin(0, 5, 0, 0, 0), Math.min(10, bushels));
            CHECK.due("it is full", x.bin(0, 5, 0, -1, 0), 10);
        }
        // Other GRADES and YEARS fill it too, another ELEVATOR does not.
        PrairiePool x = pool(1, 10);
        x.elevator(0, 10);
        x.load(0, 0, 4, 0, 0, 0);
        x.grading(0, 0, 2, 0);
        x.load(0, 0, 4, 0, 60, 60);
        x.load(0, 1, 10, 0, 60, 60);
        CHECK.due("nothing TURNED yet", x.sum(-1, 1, 60), 0);
        x.load(0, 0, 4, 0, 120, 120);
        CHECK.due("2 of 4", x.sum(-1, 1, 120), 2);
        CHECK.due("the first 2 came", x.bin(0, 5, 2, 0, 120), 2);
        // NET counts, not what was weighed.
        PrairiePool y = pool(1, 10);
        y.load(0, 0, 20, 500, 0, 0);
        CHECK.due("NET has room", y.sum(0, 1, 0), 0);
        y.load(0, 0, 20, 1000, 0, 0);
        CHECK.due("nothing NET is nothing TURNED", y.sum(0, 1, 0), 0);
        // What was taken makes room, to the last bushel.
        y.spoil(0, 5, 0, 3, 1, 1);
        y.load(0, 0, 3, 0, 1, 1);
        CHECK.due("room for 3", y.sum(0, 1, 1), 0);
        y.car(0, 0, 5, 0, 2, 2, 2);
        y.load(0, 0, 3, 0, 2, 2);
        CHECK.due("room for 2 of 3", y.sum(0, 1, 2), 1);
    }

    private static void gradeAsKnown() {
        PrairiePool x = pool(1, 1000000);
        x.load(0, 0, 10, 0, 51, 53);
        x.grading(0, 0, 3, 60);
        CHECK.due("not KNOWN", x.bin(0, 5, 0, 0, 52), 0);
        CHECK.due("of YEAR 0, though KNOWN in YEAR 1", x.bin(0, 5, 0, 0, 53), 10);
        CHECK.due("not of YEAR 1", x.bin(0, 5, 1, 0, 53), 0);
        CHECK.due("a WEEK ahead of the GRADING", x.bin(0, 5, 0, 0, 59), 10);
        CHECK.due("by the GRADING's WEEK it was always of GRADE 3", x.bin(0, 3, 0, 0, 60), 10);
        CHECK.due("and never of GRADE 5", x.bin(0, 5, 0, 0, 60), 0);
        x.car(0, 0, 5, 0, 10, 61, 61);
        CHECK.due("a CAR of GRADE 5 finds none", x.sum(-1, 4, 61), 10);
        x.car(0, 0, 3, 0, 10, 61, 61);
        CHECK.due("one of GRADE 3 does", x.port(0, 3, 0, 0, 61), 10);
    }

    // ---- what is played

    private static void knownByThen() {
        PrairiePool x = pool(1, 1000000);
        x.load(0, 0, 10, 0, 0, 0);
        x.load(0, 0, 10, 0, 1, 5);
        x.spoil(0, 5, 0, 4, 2, 6);
        for (int known = 0; known < 8; known++) {
            int want = known < 5 ? 10 : known < 6 ? 20 : 16;
            CHECK.due(x, "by " + known, x.bin(0, 5, 0, 0, known), want, 0);
        }
        CHECK.due(x, "by the last WEEK", x.bin(0, 5, 0, 0, 519), 16, 0);
        // Each kind is played from the WEEK on by which it is KNOWN, not from its own.
        PrairiePool z = pool(1, 1000000);
        z.load(0, 0, 10, 0, 1, 1);
        z.car(0, 0, 5, 0, 7, 2, 11);
        z.sale(0, 5, 0, 5, 1, 3, 12);
        z.spoil(0, 5, 0, 2, 4, 13);
        for (int known = 0; known < 16; known++) {
            CHECK.due("BIN by " + known, z.bin(0, 5, 0, 0, known), known < 1 ? 0 : known < 11 ? 10 : known < 13 ? 3 : 1);
            CHECK.due("PORT by " + known, z.port(0, 5, 0, 0, known), known < 11 ? 0 : known < 12 ? 7 : 2);
            CHECK.due("sold by " + known, z.sum(0, 2, known), known < 12 ? 0 : 5);
            CHECK.due("spoilt by " + known, z.sum(0, 3, known), known < 13 ? 0 : 2);
            CHECK.due("CAME by " + known, z.paid(0, 5, 0, known), known < 12 ? 0 : 5);
        }
        // In the order in which they came, also within a WEEK.
        PrairiePool y = pool(1, 1000000);
        y.car(0, 0, 5, 0, 5, 0, 0);
        y.load(0, 0, 5, 0, 0, 0);
        CHECK.due("the CAR came too soon", y.sum(-1, 4, 0), 5);
        CHECK.due("the LOAD lies there", y.bin(0, 5, 0, 0, 0), 5);
    }

    private static void carTakesAll() {
        for (int asked = 9; asked <= 11; asked++) {
            PrairiePool x = pool(1, 1000000);
            x.load(0, 0, 10, 0, 0, 0);
            x.car(0, 1, 5, 0, asked, 0, 0);
            CHECK.due("at the PORT of " + asked, x.port(1, 5, 0, 0, 0), Math.min(10, asked));
            CHECK.due("in the BIN", x.bin(0, 5, 0, 0, 0), 10 - Math.min(10, asked));
            CHECK.due("SHORT", x.sum(-1, 4, 0), asked - Math.min(10, asked));
        }
        PrairiePool x = pool(1, 1000000);
        x.car(0, 1, 5, 0, 7, 0, 0);
        CHECK.due("of an empty BIN", x.sum(-1, 4, 0), 7);
        CHECK.due("nothing at the PORT", x.port(1, 5, 0, -1, 0), 0);
        CHECK.due("nor in the BIN", x.bin(0, 5, 0, -1, 0), 0);
    }

    private static void parts() {
        // 1 of 2 alike: the lesser FARM's.
        PrairiePool x = pool(2, 1000000);
        x.load(1, 0, 1, 0, 0, 0);
        x.load(0, 0, 1, 0, 0, 0);
        x.car(0, 0, 5, 0, 1, 0, 0);
        CHECK.due("the lesser FARM's", x.port(0, 5, 0, 0, 0), 1);
        CHECK.due("not the other's", x.port(0, 5, 0, 1, 0), 0);
        // 2 of 1, 1 and 3: 0 rest 2, 0 rest 2, 1 rest 0: one to FARM 0.
        PrairiePool y = pool(3, 1000000);
        y.load(0, 0, 1, 0, 0, 0);
        y.load(1, 0, 1, 0, 0, 0);
        y.load(2, 0, 3, 0, 0, 0);
        y.car(0, 0, 5, 0, 2, 0, 0);
        CHECK.due("rest 2", y.port(0, 5, 0, 0, 0), 1);
        CHECK.due("rest 2 of a greater FARM", y.port(0, 5, 0, 1, 0), 0);
        CHECK.due("rest 1", y.port(0, 5, 0, 2, 0), 1);
        // The greatest rest, though its FARM has least: 5 of 2, 7 and 3: 0 rest 10, 2 rest 11, 1 rest 3.
        PrairiePool z = pool(3, 1000000);
        z.load(0, 0, 2, 0, 0, 0);
        z.load(1, 0, 7, 0, 0, 0);
        z.load(2, 0, 3, 0, 0, 0);
        z.car(0, 0, 5, 0, 5, 0, 0);
        CHECK.due("rest 10", z.port(0, 5, 0, 0, 0), 1);
        CHECK.due("rest 11", z.port(0, 5, 0, 1, 0), 3);
        CHECK.due("rest 3", z.port(0, 5, 0, 2, 0), 1);
        // All: no rests; and who has none gets none.
        z.car(0, 1, 5, 0, 7, 0, 0);
        CHECK.due("all of 0", z.port(1, 5, 0, 0, 0), 1);
        CHECK.due("all of 1", z.port(1, 5, 0, 1, 0), 4);
        CHECK.due("all of 2", z.port(1, 5, 0, 2, 0), 2);
        // The last of twenty.
        PrairiePool w = pool(20, 1000000);
        w.load(19, 0, 3, 0, 0, 0);
        w.load(18, 0, 2, 0, 0, 0);
        w.car(0, 0, 5, 0, 1, 0, 0);
        CHECK.due("FARM 19 has the greatest rest", w.port(0, 5, 0, 19, 0), 1);
        CHECK.due("FARM 0 has nothing", w.port(0, 5, 0, 0, 0), 0);
    }

    private static void saleAndSpoilTakeAll() {
        for (int asked = 9; asked <= 11; asked++) {
            int taken = Math.min(10, asked);
            PrairiePool x = pool(2, 1000000);
            x.load(0, 0, 14, 0, 0, 0);
            x.load(1, 0, 6, 0, 0, 0);
            x.car(0, 0, 5, 0, 10, 0, 0);
            x.sale(0, 5, 0, asked, 3, 0, 0);
            CHECK.due("sold of " + asked, x.sum(-1, 2, 0), taken);
            CHECK.due("sold of FARM 0: 7 of 10, rounded", x.sum(0, 2, 0), asked == 9 ? 6 : 7);
            CHECK.due("left at the PORT", x.port(0, 5, 0, -1, 0), 10 - taken);
            CHECK.due("SHORT", x.sum(-1, 4, 0), asked - taken);
            CHECK.due("CAME of what was taken", x.paid(0, 5, 0, 0), 3 * taken);
            x.spoil(0, 5, 0, asked, 0, 0);
            CHECK.due("spoilt of " + asked, x.sum(-1, 3, 0), taken);
            CHECK.due("spoilt of FARM 1: 3 of 10, rounded", x.sum(1, 3, 0), 3);
            CHECK.due("left in the BIN", x.bin(0, 5, 0, -1, 0), 10 - taken);
            CHECK.due("SHORT", x.sum(-1, 4, 0), 2 * (asked - taken));
        }
        PrairiePool x = pool(1, 1000000);
        x.sale(1, 0, 9, 5, 3, 0, 0);
        x.spoil(0, 0, 9, 6, 0, 0);
        CHECK.due("of nothing", x.sum(-1, 4, 0), 11);
        CHECK.due("sold", x.sum(-1, 2, 0), 0);
        CHECK.due("spoilt", x.sum(-1, 3, 0), 0);
    }

    private static PrairiePool twenty() {
        PrairiePool x = pool(20, 2000);
        for (int farm = 0; farm < 20; farm++) {
            x.load(farm, 0, 100, 0, 0, 0);
        }
        return x;
    }

    private static void binOfAll() {
        PrairiePool x = twenty();
        CHECK.due(x, "of all", x.bin(0, 5, 0, -1, 0), 2000, 0);
        CHECK.due(x, "of the first", x.bin(0, 5, 0, 0, 0), 100, 0);
        CHECK.due(x, "of the last", x.bin(0, 5, 0, 19, 0), 100, 0);
        CHECK.refused(x, "of 20", x.bin(0, 5, 0, 20, 0), 2);
        CHECK.refused(x, "of -2", x.bin(0, 5, 0, -2, 0), 2);
        CHECK.due(x, "of an empty BIN", x.bin(0, 0, 9, -1, 0), 0, 0);
        PrairiePool y = new PrairiePool();
        y.elevator(0, 1);
        CHECK.due(y, "of all, where nobody is", y.bin(0, 5, 0, -1, 0), 0, 0);
        CHECK.refused(y, "of 0, where nobody is", y.bin(0, 5, 0, 0, 0), 2);
        CHECK.refused(y, "of no ELEVATOR", y.bin(1, 5, 0, -1, 0), 2);
    }

    private static void portOfAll() {
        PrairiePool x = twenty();
        x.car(0, 1, 5, 0, 2000, 0, 0);
        CHECK.due(x, "of all", x.port(1, 5, 0, -1, 0), 2000, 0);
        CHECK.due(x, "of the first", x.port(1, 5, 0, 0, 0), 100, 0);
        CHECK.due(x, "of the last", x.port(1, 5, 0, 19, 0), 100, 0);
        CHECK.refused(x, "of 20", x.port(1, 5, 0, 20, 0), 2);
        CHECK.refused(x, "of -2", x.port(1, 5, 0, -2, 0), 2);
        CHECK.due(x, "at the other PORT", x.port(0, 5, 0, -1, 0), 0, 0);
        PrairiePool y = new PrairiePool();
        CHECK.due(y, "of all, where nobody is", y.port(1, 5, 9, -1, 519), 0, 0);
        CHECK.refused(y, "of 0, where nobody is", y.port(1, 5, 9, 0, 519), 2);
    }

    // Each what has its own numbers, for the first FARM as for the last: none may be counted to another.
    private static void sums() {
        PrairiePool x = pool(20, 60000);
        x.load(0, 0, 10000, 100, 0, 0);
        x.load(19, 0, 10000, 200, 0, 0);
        x.load(1, 0, 10000, 0, 0, 0);
        x.load(19, 0, 10000, 0, 0, 0);
        x.load(0, 0, 10000, 0, 0, 0);
        x.load(19, 0, 10000, 0, 0, 0);
        x.load(19, 0, 10000, 0, 0, 0);
        x.load(0, 0, 10000, 0, 0, 0);
        x.car(0, 0, 5, 0, 6000, 0, 0);
        x.sale(0, 5, 0, 600, 1, 0, 0);
        x.spoil(0, 5, 0, 5400, 0, 0);
        x.sale(0, 5, 0, 5401, 0, 0, 0);
        long[][] want = {{1000, 0, 2000, 3000}, {10000, 0, 7000, 17000}, {1900, 1000, 3100, 6000},
            {1710, 900, 2790, 5400}};
        int[] farms = {0, 1, 19, -1};
        for (int what = 0; what < 4; what++) {
            for (int i = 0; i < 4; i++) {
                CHECK.due(x, "sum(" + farms[i] + ", " + what + ", 0)", x.sum(farms[i], what, 0), want[what][i], 0);
            }
        }
        CHECK.due(x, "SHORT", x.sum(-1, 4, 0), 1, 0);
        for (int farm : new int[] {0, 19}) {
            CHECK.refused(x, "SHORT of a FARM", x.sum(farm, 4, 0), 5);
        }
        for (int what : new int[] {-1, 5, MIN, MAX}) {
            CHECK.refused(x, "what " + what, x.sum(0, what, 0), 5);
            CHECK.refused(x, "what " + what + " of all", x.sum(-1, what, 0), 5);
        }
        for (int farm : new int[] {-2, 20, MIN, MAX}) {
            CHECK.refused(x, "of FARM " + farm, x.sum(farm, 9, 520), 2);
        }
    }
}
