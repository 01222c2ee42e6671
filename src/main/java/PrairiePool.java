import java.util.Arrays;

/**
 * A pool of a prairie that sells the wheat of its farms as one.
 *
 * The face looks at what a call is given and sets its STATUS; the classes inside hold the state
 * and reckon the answers. All rows are made with the object, so that a call makes no new ones.
 */
public final class PrairiePool {
    public static final int NONE = -1;

    private static final int NO_TRAY = 1;
    private static final int NO_SUCH = 2;
    private static final int MISSING = 3;
    private static final int NO_PLACE = 4;
    private static final int BAD_NUMBER = 5;
    private static final int BELOW_ZERO = 6;
    private static final int TOO_MANY = 7;
    private static final int NOT_THERE = 8;
    private static final int CANT_BE = 9;
    private static final int FAULTY = 10;
    private static final int UNLIKE = 11;
    private static final int GONE = 12;

    private static final int WEEKS = 520;
    private static final int WEEKS_A_YEAR = 52;
    private static final int YEARS = 10;
    private static final int GRADES = 6;
    private static final int GRADERS = 6;
    private static final int DISTRICTS = 6;
    private static final int PORTS = 2;
    private static final int FARMS = 20;
    private static final int ELEVATORS = 8;
    private static final int THOUSAND = 1000;

    private int status;
    private final Trays trays = new Trays();
    private final Prairie prairie = new Prairie();
    private final Journal journal = new Journal();
    private final Asker asker = new Asker();
    private final Parser parser = new Parser();
    private final Yard yard = new Yard();
    private final Play play;
    private final Payments payments;
    private final Outsides outsides;
    private final Ballot ballot;

    public PrairiePool() {
        play = new Play(prairie, journal, asker);
        payments = new Payments(play, asker);
        outsides = new Outsides(prairie, asker);
        ballot = new Ballot(prairie, asker);
    }

    public int status() {
        return status;
    }

    // ---- TRAYS

    public boolean tray(int tray, int sort, int many) {
        boolean there = isIn(tray, 0, Trays.MANY - 1) && isIn(sort, 0, Trays.SORTS - 1);
        status = !there ? NO_TRAY : many > Trays.LONGEST ? BAD_NUMBER : many < 0 ? BELOW_ZERO : 0;
        if (status != 0) {
            return false;
        }
        trays.make(tray, sort, many);
        return true;
    }

    public boolean write(int tray, int place, long v) {
        status = trays.statusOfPlace(tray, place);
        if (status != 0) {
            return false;
        }
        trays.put(tray, place, v);
        return true;
    }

    public long read(int tray, int place) {
        status = trays.statusOfPlace(tray, place);
        return status != 0 ? NONE : trays.get(tray, place);
    }

    public boolean pour(int tray, int i, int to, int j, int many) {
        status = trays.statusOfTwo(tray, to);
        if (status == 0) {
            status = trays.statusOfPouring(tray, i, to, j, many);
        }
        if (status != 0) {
            return false;
        }
        trays.move(tray, i, to, j, many);
        return true;
    }

    // ---- FARMS, ELEVATORS, EVENTS

    public int farm(int district, int acres, int debt) {
        boolean canBe = isIn(acres, 1, 5000) && isIn(debt, 0, 100000);
        if (!passesWithRoom(isDistrict(district), canBe, prairie.farms < FARMS)) {
            return NONE;
        }
        return prairie.addFarm(district, acres, debt);
    }

    public int elevator(int district, int room) {
        boolean canBe = isIn(room, 1, 1000000);
        if (!passesWithRoom(isDistrict(district), canBe, prairie.elevators < ELEVATORS)) {
            return NONE;
        }
        return prairie.addElevator(district, room);
    }

    public int load(int farm, int elevator, int bushels, int docked, int week, int known) {
        boolean there = prairie.hasFarm(farm) && prairie.hasElevator(elevator);
        boolean canBe = isIn(bushels, 1, 10000) && isIn(docked, 0, THOUSAND);
        if (!mayCome(there, canBe, week, known)) {
            return NONE;
        }
        int event = journal.enter(Journal.LOAD, week, known);
        journal.farm[event] = farm;
        journal.elevator[event] = elevator;
        journal.year[event] = week / WEEKS_A_YEAR;
        journal.bushels[event] = bushels;
        journal.docked[event] = bushels * docked / THOUSAND;
        return event;
    }

    public int car(int elevator, int port, int grade, int year, int bushels, int week, int known) {
        boolean there = prairie.hasElevator(elevator) && isPort(port) && isGrade(grade);
        if (!mayCome(there, isYear(year) && isIn(bushels, 1, 100000), week, known)) {
            return NONE;
        }
        int event = journal.enter(Journal.CAR, week, known);
        journal.elevator[event] = elevator;
        journal.port[event] = port;
        journal.tellWhat(event, grade, year, bushels);
        return event;
    }

    public int sale(int port, int grade, int year, int bushels, int pence, int week, int known) {
        boolean canBe = isYear(year) && isIn(bushels, 1, 100000) && isPence(pence);
        if (!mayCome(isPort(port) && isGrade(grade), canBe, week, known)) {
            return NONE;
        }
        int event = journal.enter(Journal.SALE, week, known);
        journal.port[event] = port;
        journal.pence[event] = pence;
        journal.tellWhat(event, grade, year, bushels);
        return event;
    }

    public int spoil(int elevator, int grade, int year, int bushels, int week, int known) {
        boolean there = prairie.hasElevator(elevator) && isGrade(grade);
        if (!mayCome(there, isYear(year) && isIn(bushels, 1, 100000), week, known)) {
            return NONE;
        }
        int event = journal.enter(Journal.SPOIL, week, known);
        journal.elevator[event] = elevator;
        journal.tellWhat(event, grade, year, bushels);
        return event;
    }

    public boolean grading(int load, int grader, int grade, int known) {
        boolean there = journal.hasLoad(load) && isIn(grader, 0, GRADERS - 1) && isGrade(grade);
        if (!passesWithRoom(there, isWeek(known), journal.gradings < Journal.MOST_GRADINGS)) {
            return false;
        }
        if (known < journal.latestKnown) {
            status = GONE;
            return false;
        }
        int number = journal.enterGrading(load, grader, grade, known);
        journal.rank[number] = rankOf(number);
        return true;
    }

    public int grade(int load, int known) {
        if (!passes(journal.hasLoad(load), isWeek(known))) {
            return NONE;
        }
        if (journal.known[load] > known) {
            status = NOT_THERE;
            return NONE;
        }
        play.judge(known);
        return play.judged[load];
    }

    public int bin(int elevator, int grade, int year, int farm, int known) {
        boolean there = prairie.hasElevator(elevator) && isGrade(grade) && isFarmOrNone(farm);
        if (!passes(there, isYear(year) && isWeek(known))) {
            return NONE;
        }
        play.replay(known);
        return play.bushelsAt(Play.slotOfBin(elevator, grade, year), farm);
    }

    public int port(int port, int grade, int year, int farm, int known) {
        boolean there = isPort(port) && isGrade(grade) && isFarmOrNone(farm);
        if (!passes(there, isYear(year) && isWeek(known))) {
            return NONE;
        }
        play.replay(known);
        return play.bushelsAt(Play.slotOfPort(port, grade, year), farm);
    }

    public int sum(int farm, int what, int known) {
        boolean canBe = isIn(what, 0, Play.SHORT) && isWeek(known)
                && (what != Play.SHORT || farm == NONE);
        if (!passes(isFarmOrNone(farm), canBe)) {
            return NONE;
        }
        play.replay(known);
        return play.totalOf(what, farm);
    }

    // ---- ACTS

    public int feed(int a, int b, int c, int d, int e) {
        if (!parser.hasRoomToFeed()) {
            return NONE;
        }
        parser.take(a);
        parser.take(b);
        parser.take(c);
        parser.take(d);
        parser.take(e);
        return parser.tapeLength;
    }

    public int acts(int n, int from) {
        boolean canBe = isIn(n, 0, parser.tapeLength) && isWeek(from);
        if (!passesWithRoom(true, canBe, asker.texts < Asker.MOST_TEXTS)) {
            return NONE;
        }
        parser.parse(n);
        if (parser.fault != 0) {
            status = FAULTY;
            return NONE;
        }
        asker.adopt(parser.draft, from);
        rankAll();
        return parser.draft.defs;
    }

    public int fault(int what) {
        return what == 0 ? parser.fault : what == 1 ? parser.faultPlace : NONE;
    }

    // ---- what is PAID

    public long paid(int year, int grade, int what, int known) {
        if (!passes(isGrade(grade), isYear(year) && isIn(what, 0, 2) && isWeek(known))) {
            return NONE;
        }
        payments.reckon(year, known);
        return payments.ofGrade(grade, what);
    }

    public long last(int farm, int year, int known) {
        if (!passes(prairie.hasFarm(farm), isYear(year) && isWeek(known))) {
            return NONE;
        }
        payments.reckon(year, known);
        return payments.lastOf(farm);
    }

    public long first(int farm, int year, int known) {
        if (!passes(prairie.hasFarm(farm), isYear(year) && isWeek(known))) {
            return NONE;
        }
        payments.reckon(year, known);
        return payments.firsts[farm];
    }

    public long below(int year, int what, int known) {
        if (!passes(true, isYear(year) && isIn(what, 0, 1) && isWeek(known))) {
            return NONE;
        }
        payments.reckon(year, known);
        payments.reckonOwed(year);
        return what == 0 ? payments.lacking : payments.stoodFor;
    }

    public long owed(int farm, int year, int known) {
        if (!passes(prairie.hasFarm(farm), isYear(year) && isWeek(known))) {
            return NONE;
        }
        payments.reckon(year, known);
        payments.reckonOwed(year);
        return payments.owes[farm];
    }

    public int turns(int week, int n, int elevator) {
        if (!passes(prairie.hasElevator(elevator), isWeek(week) && isIn(n, 1, 20))) {
            return NONE;
        }
        play.replay(week);
        play.giveCars(week, n);
        return play.cars[elevator];
    }

    // ---- CONTRACTS, ALONE

    public boolean sign(int farm, int from, int to) {
        if (!passes(prairie.hasFarm(farm), isYear(from) && isYear(to) && from <= to)) {
            return false;
        }
        prairie.signedFrom[farm] = from;
        prairie.signedTo[farm] = to;
        return true;
    }

    public boolean let(int farm, int year, boolean is) {
        if (!passes(prairie.hasFarm(farm), isYear(year))) {
            return false;
        }
        prairie.letOff[farm * YEARS + year] = is;
        return true;
    }

    public int outside(int farm, int week, int bushels, int pence) {
        boolean canBe = isWeek(week) && isIn(bushels, 1, 10000) && isPence(pence);
        boolean room = outsides.count < Outsides.MOST;
        if (!passesWithRoom(prairie.hasFarm(farm), canBe, room)) {
            return NONE;
        }
        return outsides.add(farm, week, bushels, pence);
    }

    public int breach(int outside) {
        status = isIn(outside, 0, outsides.count - 1) ? 0 : NOT_THERE;
        if (status != 0) {
            return NONE;
        }
        return outsides.penceFor(outside) > 0 ? 1 : 0;
    }

    public long cost(int farm, int year) {
        if (!passes(prairie.hasFarm(farm), isYear(year))) {
            return NONE;
        }
        return outsides.costOf(farm, year);
    }

    public boolean price(int week, int pence) {
        if (!passes(true, isWeek(week) && isPence(pence))) {
            return false;
        }
        payments.prices[week] = pence;
        return true;
    }

    public boolean rules(int step, int lag) {
        if (!passes(true, isIn(step, 0, 100) && isIn(lag, 0, 20))) {
            return false;
        }
        payments.step = step;
        payments.lag = lag;
        return true;
    }

    public long alone(int farm, int year, int known) {
        if (!passes(prairie.hasFarm(farm), isYear(year) && isWeek(known))) {
            return NONE;
        }
        play.replay(known);
        return payments.aloneOf(farm, year);
    }

    public int more(int year, int known) {
        if (!passes(true, isYear(year) && isWeek(known))) {
            return NONE;
        }
        payments.reckon(year, known);
        return payments.countBetterOff(year);
    }

    // ---- votes, bins that warm, orders

    public boolean vote(int farm, int how) {
        if (!passes(prairie.hasFarm(farm), isIn(how, NONE, 1))) {
            return false;
        }
        prairie.voted[farm] = how;
        return true;
    }

    public int result(int district, int week) {
        if (!passes(district == NONE || isDistrict(district), isWeek(week))) {
            return NONE;
        }
        ballot.count(week);
        boolean isFor = district == NONE ? ballot.isWholeFor() : ballot.margins[district] > 0;
        return isFor ? 1 : 0;
    }

    public int hangs(int week) {
        if (!passes(true, isWeek(week))) {
            return NONE;
        }
        ballot.count(week);
        return ballot.leastSetThatTurns();
    }

    public int warm(int weeks, int bushels, int many) {
        status = statusOfWarm(weeks, bushels, many);
        if (status != 0) {
            return NONE;
        }
        for (int bin = 0; bin < many; bin++) {
            yard.weeksLeft[bin] = (int) trays.get(weeks, bin);
            yard.bushels[bin] = (int) trays.get(bushels, bin);
        }
        return yard.planTurning(many);
    }

    public int turned(int week) {
        status = yard.hasPlan && isIn(week, 0, Yard.TURNING_WEEKS - 1) ? 0 : NOT_THERE;
        return status != 0 ? NONE : yard.plan[week];
    }

    public int send(int bins, int b, int orders, int o, int costs) {
        status = statusOfSend(bins, b, orders, o, costs);
        if (status != 0) {
            return NONE;
        }
        for (int bin = 0; bin < b; bin++) {
            yard.left[bin] = (int) trays.get(bins, bin);
        }
        for (int order = 0; order < o; order++) {
            yard.wanted[order] = (int) trays.get(orders, order);
        }
        for (int way = 0; way < b * o; way++) {
            yard.costs[way] = (int) trays.get(costs, way);
        }
        return yard.leastCost(b, o);
    }

    // ---- what calls are asked

    private static boolean isIn(int v, int least, int most) {
        return v >= least && v <= most;
    }

    private static boolean isWeek(int week) {
        return isIn(week, 0, WEEKS - 1);
    }

    private static boolean isYear(int year) {
        return isIn(year, 0, YEARS - 1);
    }

    private static boolean isGrade(int grade) {
        return isIn(grade, 0, GRADES - 1);
    }

    private static boolean isDistrict(int district) {
        return isIn(district, 0, DISTRICTS - 1);
    }

    private static boolean isPort(int port) {
        return isIn(port, 0, PORTS - 1);
    }

    private static boolean isPence(int pence) {
        return isIn(pence, 0, 1000);
    }

    private boolean isFarmOrNone(int farm) {
        return farm == NONE || prairie.hasFarm(farm);
    }

    private boolean passes(boolean there, boolean canBe) {
        status = !there ? NO_SUCH : !canBe ? BAD_NUMBER : 0;
        return status == 0;
    }

    private boolean passesWithRoom(boolean there, boolean canBe, boolean room) {
        if (passes(there, canBe) && !room) {
            status = TOO_MANY;
        }
        return status == 0;
    }

    private boolean mayCome(boolean there, boolean canBe, int week, int known) {
        boolean inTime = isWeek(week) && isWeek(known) && known >= week;
        boolean room = journal.events < Journal.MOST_EVENTS;
        if (passesWithRoom(there, canBe && inTime, room) && journal.isGone(week, known)) {
            status = GONE;
        }
        return status == 0;
    }

    private int statusOfWarm(int weeks, int bushels, int many) {
        int found = trays.statusOfTwo(weeks, bushels);
        if (found != 0) {
            return found;
        }
        if (!isIn(many, 1, Yard.WARM_BINS)) {
            return BAD_NUMBER;
        }
        if (trays.lengths[weeks] < many || trays.lengths[bushels] < many) {
            return NO_PLACE;
        }
        boolean canBe = trays.areIn(weeks, many, 0, Yard.TURNING_WEEKS)
                && trays.areIn(bushels, many, 1, 10000);
        return canBe ? 0 : BAD_NUMBER;
    }

    private int statusOfSend(int bins, int b, int orders, int o, int costs) {
        int found = trays.statusOfThree(bins, orders, costs);
        if (found != 0) {
            return found;
        }
        if (!isIn(b, 1, Yard.SENDING_BINS) || !isIn(o, 1, Yard.ORDERS)) {
            return BAD_NUMBER;
        }
        if (trays.lengths[bins] < b || trays.lengths[orders] < o || trays.lengths[costs] < b * o) {
            return NO_PLACE;
        }
        boolean canBe = trays.areIn(bins, b, 0, 30) && trays.areIn(orders, o, 0, 30)
                && trays.areIn(costs, b * o, 0, 100);
        if (!canBe) {
            return BAD_NUMBER;
        }
        return trays.totalOf(bins, b) < trays.totalOf(orders, o) ? CANT_BE : 0;
    }

    // What a rank is asked of never changes but for the TEXTS: it is asked once, and again as they come.
    private void rankAll() {
        for (int number = 0; number < journal.gradings; number++) {
            journal.rank[number] = rankOf(number);
        }
    }

    private int rankOf(int number) {
        int load = journal.gradedLoad[number];
        int week = journal.week[load];
        asker.begin(week);
        asker.tellWeek(week);
        asker.tell(Asker.GRADE, journal.givenGrade[number]);
        asker.tell(Asker.GRADER, journal.grader[number]);
        asker.tell(Asker.BUSHELS, journal.netOf(load));
        asker.tell(Asker.DISTRICT, prairie.farmDistrict[journal.farm[load]]);
        return asker.ask(Asker.RANK);
    }

    /** The four TRAYS, one behind the other in one row. */
    private static final class Trays {
        static final int MANY = 4;
        static final int SORTS = 4;
        static final int LONGEST = 40;

        final int[] sorts = new int[MANY];
        // NONE while a TRAY is MISSING.
        final int[] lengths = {NONE, NONE, NONE, NONE};
        final long[] numbers = new long[MANY * LONGEST];

        void make(int tray, int sort, int many) {
            sorts[tray] = sort;
            lengths[tray] = many;
            for (int place = 0; place < many; place++) {
                numbers[tray * LONGEST + place] = 0;
            }
        }

        long get(int tray, int place) {
            return numbers[tray * LONGEST + place];
        }

        void put(int tray, int place, long v) {
            numbers[tray * LONGEST + place] = cut(v, sorts[tray]);
        }

        void move(int from, int i, int to, int j, int many) {
            System.arraycopy(numbers, from * LONGEST + i, numbers, to * LONGEST + j, many);
        }

        boolean areIn(int tray, int many, long least, long most) {
            for (int place = 0; place < many; place++) {
                long v = get(tray, place);
                if (v < least || v > most) {
                    return false;
                }
            }
            return true;
        }

        long totalOf(int tray, int many) {
            long total = 0;
            for (int place = 0; place < many; place++) {
                total += get(tray, place);
            }
            return total;
        }

        int statusOfTwo(int one, int other) {
            return statusOfThree(one, other, one);
        }

        int statusOfThree(int one, int other, int third) {
            int last = MANY - 1;
            if (!isIn(one, 0, last) || !isIn(other, 0, last) || !isIn(third, 0, last)) {
                return NO_TRAY;
            }
            boolean missing = lengths[one] < 0 || lengths[other] < 0 || lengths[third] < 0;
            return missing ? MISSING : 0;
        }

        int statusOfPlace(int tray, int place) {
            int found = statusOfTwo(tray, tray);
            if (found != 0) {
                return found;
            }
            return isIn(place, 0, lengths[tray] - 1) ? 0 : NO_PLACE;
        }

        int statusOfPouring(int from, int i, int to, int j, int many) {
            if (sorts[from] != sorts[to]) {
                return UNLIKE;
            }
            if (many < 0) {
                return BELOW_ZERO;
            }
            boolean has = i >= 0 && (long) i + many <= lengths[from]
                    && j >= 0 && (long) j + many <= lengths[to];
            return has ? 0 : NO_PLACE;
        }

        private static long cut(long v, int sort) {
            switch (sort) {
                case 0:
                    return (byte) v;
                case 1:
                    return (short) v;
                case 2:
                    return (int) v;
                default:
                    return v;
            }
        }
    }

    /** Who is there: FARMS with their CONTRACTS and votes, and ELEVATORS. */
    private static final class Prairie {
        int farms;
        final int[] farmDistrict = new int[FARMS];
        final int[] acres = new int[FARMS];
        final int[] debt = new int[FARMS];
        final int[] signedFrom = new int[FARMS];
        final int[] signedTo = new int[FARMS];
        final boolean[] letOff = new boolean[FARMS * YEARS];
        final int[] voted = new int[FARMS];
        int elevators;
        final int[] elevatorDistrict = new int[ELEVATORS];
        final int[] room = new int[ELEVATORS];

        int addFarm(int district, int farmAcres, int farmDebt) {
            int farm = farms;
            farmDistrict[farm] = district;
            acres[farm] = farmAcres;
            debt[farm] = farmDebt;
            // From behind to: SIGNED in no YEAR.
            signedFrom[farm] = YEARS;
            signedTo[farm] = NONE;
            voted[farm] = NONE;
            farms++;
            return farm;
        }

        int addElevator(int district, int bushels) {
            int elevator = elevators;
            elevatorDistrict[elevator] = district;
            room[elevator] = bushels;
            elevators++;
            return elevator;
        }

        boolean hasFarm(int farm) {
            return isIn(farm, 0, farms - 1);
        }

        boolean hasElevator(int elevator) {
            return isIn(elevator, 0, elevators - 1);
        }

        boolean isBound(int farm, int year) {
            return isIn(year, signedFrom[farm], signedTo[farm]) && !letOff[farm * YEARS + year];
        }

        void tellOf(int farm, Asker asker) {
            asker.tell(Asker.ACRES, acres[farm]);
            asker.tell(Asker.DEBT, debt[farm]);
            asker.tell(Asker.DISTRICT, farmDistrict[farm]);
        }
    }

    /** EVENTS and GRADINGS as they came, a column for each thing told of them. */
    private static final class Journal {
        static final int MOST_EVENTS = 120;
        static final int MOST_GRADINGS = 100;
        static final int LOAD = 0;
        static final int CAR = 1;
        static final int SALE = 2;
        static final int SPOIL = 3;

        int events;
        int latestKnown;
        final int[] kind = new int[MOST_EVENTS];
        final int[] farm = new int[MOST_EVENTS];
        final int[] elevator = new int[MOST_EVENTS];
        final int[] port = new int[MOST_EVENTS];
        final int[] grade = new int[MOST_EVENTS];
        final int[] year = new int[MOST_EVENTS];
        final int[] bushels = new int[MOST_EVENTS];
        final int[] docked = new int[MOST_EVENTS];
        final int[] pence = new int[MOST_EVENTS];
        final int[] week = new int[MOST_EVENTS];
        final int[] known = new int[MOST_EVENTS];

        int gradings;
        final int[] gradedLoad = new int[MOST_GRADINGS];
        final int[] grader = new int[MOST_GRADINGS];
        final int[] givenGrade = new int[MOST_GRADINGS];
        final int[] rank = new int[MOST_GRADINGS];
        final int[] gradingKnown = new int[MOST_GRADINGS];

        boolean hasLoad(int event) {
            return isIn(event, 0, events - 1) && kind[event] == LOAD;
        }

        boolean isGone(int newWeek, int newKnown) {
            boolean weekGone = events > 0 && newWeek < week[events - 1];
            return weekGone || newKnown < latestKnown;
        }

        int enter(int newKind, int newWeek, int newKnown) {
            int event = events;
            kind[event] = newKind;
            week[event] = newWeek;
            known[event] = newKnown;
            latestKnown = newKnown;
            events++;
            return event;
        }

        void tellWhat(int event, int itsGrade, int itsYear, int itsBushels) {
            grade[event] = itsGrade;
            year[event] = itsYear;
            bushels[event] = itsBushels;
        }

        int enterGrading(int load, int itsGrader, int itsGrade, int newKnown) {
            int number = gradings;
            gradedLoad[number] = load;
            grader[number] = itsGrader;
            givenGrade[number] = itsGrade;
            gradingKnown[number] = newKnown;
            latestKnown = newKnown;
            gradings++;
            return number;
        }

        int netOf(int load) {
            return bushels[load] - docked[load];
        }

        int countKnownBy(int byWeek) {
            int count = 0;
            while (count < events && known[count] <= byWeek) {
                count++;
            }
            return count;
        }
    }

    /**
     * A TEXT as a row of steps over a stack: each step is its kind and a number in one int. An if
     * has both its ways reckoned and one chosen behind them, so that the row is played straight on.
     */
    private static final class Text {
        static final int LONGEST = 500;
        static final int MOST_DEFS = 10;
        static final int ASKED = 7;

        static final int NUMBER = 0;
        static final int VARIABLE = 1;
        static final int DEF = 2;
        static final int CHOOSE = 3;
        static final int ADD = 4;
        static final int SUBTRACT = 5;
        static final int MULTIPLY = 6;
        static final int DIVIDE = 7;
        static final int REMAINDER = 8;
        static final int LEAST = 9;
        static final int MOST = 10;
        static final int AND = 11;
        static final int OR = 12;
        static final int LESS = 13;
        static final int GREATER = 14;
        static final int SAME = 15;

        private static final int NUMBER_BITS = 20;
        private static final int NUMBER_MASK = (1 << NUMBER_BITS) - 1;

        int from;
        int defs;
        int steps;
        final int[] code = new int[LONGEST];
        // Where the steps of each DEF end: those of the next begin there.
        final int[] ends = new int[MOST_DEFS];
        // Which DEF bears a NAME that is asked for, or NONE.
        final int[] asked = new int[ASKED];

        void empty() {
            defs = 0;
            steps = 0;
            Arrays.fill(asked, NONE);
        }

        void add(int step, int number) {
            if (steps < LONGEST) {
                code[steps] = step << NUMBER_BITS | number;
                steps++;
            }
        }

        void endDef() {
            if (defs < MOST_DEFS) {
                ends[defs] = steps;
                defs++;
            }
        }

        void copyFrom(Text other) {
            defs = other.defs;
            steps = other.steps;
            System.arraycopy(other.code, 0, code, 0, LONGEST);
            System.arraycopy(other.ends, 0, ends, 0, MOST_DEFS);
            System.arraycopy(other.asked, 0, asked, 0, ASKED);
        }

        int startOf(int def) {
            return def == 0 ? 0 : ends[def - 1];
        }

        int stepAt(int place) {
            return code[place] >>> NUMBER_BITS;
        }

        int numberAt(int place) {
            return code[place] & NUMBER_MASK;
        }
    }

    /** The tape, and what makes a TEXT of it, or finds its first FAULT. */
    private static final class Parser {
        private static final String KEY_WORDS = "if then else and or not least most";
        private static final String VARIABLES =
                "grade grader week year bushels acres debt district cars waits price";
        private static final String ASKED_FOR = "rank first held stand breach turn votes";

        private static final int BYTES_FED = 20;
        private static final int MOST_DIGITS = 6;
        private static final int MOST_LETTERS = 8;
        private static final int DEEPEST = 8;
        // A WORD that can be a NAME is held as one number, a letter being a digit of 1 to 26.
        private static final int PACKING = 27;

        // What a TOKEN is: a SIGN is its own byte, and all other kinds are less than these.
        private static final int END = 0;
        private static final int BROKEN = 1;
        private static final int NUMBER = 2;
        private static final int WORD = 3;
        private static final int IF = 4;
        private static final int THEN = 5;
        private static final int ELSE = 6;
        private static final int AND = 7;
        private static final int OR = 8;
        private static final int NOT = 9;
        private static final int LEAST = 10;
        private static final int MOST = 11;

        private static final int NO_TOKEN = 1;
        private static final int CANT_STAND = 2;
        private static final int ELEVENTH = 3;
        private static final int NAME_TWICE = 4;
        private static final int TOO_DEEP = 5;
        private static final int UNKNOWN_WORD = 6;

        final byte[] tape = new byte[Text.LONGEST];
        int tapeLength;
        int fault = NONE;
        int faultPlace = NONE;
        final Text draft = new Text();

        private final long[] names = new long[Text.MOST_DEFS];
        private int length;
        private int at;
        private int token;
        private int tokenPlace;
        private int tokenNumber;
        private long tokenWord;

        boolean hasRoomToFeed() {
            return tapeLength + BYTES_FED <= Text.LONGEST;
        }

        void take(int four) {
            for (int shift = 24; shift >= 0; shift -= 8) {
                if (tapeLength < Text.LONGEST) {
                    tape[tapeLength] = (byte) (four >> shift);
                    tapeLength++;
                }
            }
        }

        void parse(int n) {
            length = n;
            at = 0;
            fault = 0;
            faultPlace = NONE;
            draft.empty();
            advance();
            for (int def = 0; def <= Text.MOST_DEFS && token != END && fault == 0; def++) {
                parseName();
                expect(':');
                parseWhole(1);
                expect(';');
                if (fault == 0) {
                    draft.endDef();
                }
            }
            tapeLength = 0;
        }

        private void fail(int kind) {
            if (fault == 0) {
                fault = kind;
                faultPlace = tokenPlace;
            }
            token = BROKEN;
        }

        // ---- TOKENS

        private void advance() {
            if (fault != 0) {
                return;
            }
            while (at < length && (tape[at] == ' ' || tape[at] == '\n')) {
                at++;
            }
            tokenPlace = at;
            if (at >= length) {
                token = END;
            } else if (isLetter(tape[at])) {
                scanWord();
            } else if (isDigit(tape[at])) {
                scanNumber();
            } else if (isSign(tape[at])) {
                token = tape[at];
                at++;
            } else {
                fail(NO_TOKEN);
            }
        }

        private void scanWord() {
            long packed = 0;
            while (at < length && isLetter(tape[at])) {
                packed = packed * PACKING + (tape[at] - 'a' + 1);
                at++;
            }
            tokenWord = at - tokenPlace <= MOST_LETTERS ? packed : NONE;
            int key = find(KEY_WORDS, tokenWord);
            token = key == NONE ? WORD : IF + key;
        }

        private void scanNumber() {
            tokenNumber = 0;
            while (at < length && isDigit(tape[at])) {
                tokenNumber = tokenNumber * 10 + (tape[at] - '0');
                at++;
            }
            token = NUMBER;
            if (at - tokenPlace > MOST_DIGITS) {
                fail(NO_TOKEN);
            }
        }

        private static boolean isLetter(int c) {
            return c >= 'a' && c <= 'z';
        }

        private static boolean isDigit(int c) {
            return c >= '0' && c <= '9';
        }

        private static boolean isSign(int c) {
            return c > 0 && ":;<>=+-*/%(),".indexOf((char) c) >= 0;
        }

        // Which of some words, told with blanks between them, a packed WORD is.
        private static int find(String words, long packed) {
            int number = 0;
            long word = 0;
            for (int i = 0; i < words.length(); i++) {
                char c = words.charAt(i);
                if (c != ' ') {
                    word = word * PACKING + (c - 'a' + 1);
                } else if (word == packed) {
                    return number;
                } else {
                    number++;
                    word = 0;
                }
            }
            return word == packed ? number : NONE;
        }

        // ---- DEFS

        private void expect(int kind) {
            if (token == kind) {
                advance();
            } else {
                fail(CANT_STAND);
            }
        }

        private void parseName() {
            boolean isName = token == WORD && tokenWord != NONE && find(VARIABLES, tokenWord) == NONE;
            if (!isName) {
                fail(CANT_STAND);
            } else if (draft.defs >= Text.MOST_DEFS) {
                fail(ELEVENTH);
            } else if (findDef(tokenWord) != NONE) {
                fail(NAME_TWICE);
            } else {
                names[draft.defs] = tokenWord;
                int asked = find(ASKED_FOR, tokenWord);
                if (asked != NONE) {
                    draft.asked[asked] = draft.defs;
                }
                advance();
            }
        }

        private int findDef(long name) {
            for (int def = 0; def < draft.defs; def++) {
                if (names[def] == name) {
                    return def;
                }
            }
            return NONE;
        }

        private boolean mayBegin(boolean isBegun, int depth) {
            if (!isBegun) {
                fail(CANT_STAND);
            } else if (depth > DEEPEST) {
                fail(TOO_DEEP);
            }
            return fault == 0;
        }

        private boolean beginsSum() {
            return token == NUMBER || token == WORD || token == '(' || token == LEAST || token == MOST;
        }

        private void parseWhole(int depth) {
            if (!mayBegin(token == IF || beginsSum(), depth)) {
                return;
            }
            if (token != IF) {
                parseSum(depth);
                return;
            }
            advance();
            parseTest(depth);
            expect(THEN);
            parseWhole(depth + 1);
            expect(ELSE);
            parseWhole(depth + 1);
            draft.add(Text.CHOOSE, 0);
        }

        private void parseTest(int depth) {
            parseOne(depth);
            int joint = token;
            if (joint != AND && joint != OR) {
                return;
            }
            for (int one = 0; one < length && token == joint; one++) {
                advance();
                parseOne(depth);
                draft.add(joint == AND ? Text.AND : Text.OR, 0);
            }
        }

        private void parseOne(int depth) {
            int isNot = token == NOT ? 1 : 0;
            if (isNot == 1) {
                advance();
            }
            parseSum(depth);
            int step = stepOfCompares(token);
            if (step == NONE) {
                fail(CANT_STAND);
                return;
            }
            advance();
            parseSum(depth);
            draft.add(step, isNot);
        }

        private void parseSum(int depth) {
            parseItem(depth);
            for (int item = 0; item < length && (token == '+' || token == '-'); item++) {
                int step = token == '+' ? Text.ADD : Text.SUBTRACT;
                advance();
                parseItem(depth);
                draft.add(step, 0);
            }
        }

        private void parseItem(int depth) {
            parseAtom(depth);
            for (int atom = 0; atom < length && stepOfItem(token) != NONE; atom++) {
                int step = stepOfItem(token);
                advance();
                parseAtom(depth);
                draft.add(step, 0);
            }
        }

        private void parseAtom(int depth) {
            switch (token) {
                case NUMBER:
                    draft.add(Text.NUMBER, tokenNumber);
                    advance();
                    break;
                case WORD:
                    addWord();
                    advance();
                    break;
                case '(':
                    advance();
                    parseWhole(depth + 1);
                    expect(')');
                    break;
                case LEAST:
                case MOST:
                    parseFew(depth);
                    break;
                default:
                    fail(CANT_STAND);
            }
        }

        private void addWord() {
            int variable = find(VARIABLES, tokenWord);
            int def = findDef(tokenWord);
            if (variable != NONE) {
                draft.add(Text.VARIABLE, variable);
            } else if (def != NONE) {
                draft.add(Text.DEF, def);
            } else {
                fail(UNKNOWN_WORD);
            }
        }

        private void parseFew(int depth) {
            int step = token == LEAST ? Text.LEAST : Text.MOST;
            advance();
            expect('(');
            parseSumOfFew(depth + 1);
            expect(',');
            parseSumOfFew(depth + 1);
            expect(')');
            draft.add(step, 0);
        }

        private void parseSumOfFew(int depth) {
            if (mayBegin(beginsSum(), depth)) {
                parseSum(depth);
            }
        }

        private static int stepOfCompares(int sign) {
            switch (sign) {
                case '<':
                    return Text.LESS;
                case '>':
                    return Text.GREATER;
                case '=':
                    return Text.SAME;
                default:
                    return NONE;
            }
        }

        private static int stepOfItem(int sign) {
            switch (sign) {
                case '*':
                    return Text.MULTIPLY;
                case '/':
                    return Text.DIVIDE;
                case '%':
                    return Text.REMAINDER;
                default:
                    return NONE;
            }
        }
    }

    /** The TEXTS, and what their DEFS answer when VARIABLES have been told. */
    private static final class Asker {
        static final int MOST_TEXTS = 4;

        static final int RANK = 0;
        static final int FIRST = 1;
        static final int HELD = 2;
        static final int STAND = 3;
        static final int BREACH = 4;
        static final int TURN = 5;
        static final int VOTES = 6;

        static final int GRADE = 0;
        static final int GRADER = 1;
        static final int WEEK = 2;
        static final int YEAR = 3;
        static final int BUSHELS = 4;
        static final int ACRES = 5;
        static final int DEBT = 6;
        static final int DISTRICT = 7;
        static final int CARS = 8;
        static final int WAITS = 9;
        static final int PRICE = 10;
        private static final int VARIABLES = 11;

        private static final int[] LOWEST = {-1000000, 0, 0, 0, 0, -1000000, 0};
        private static final int[] HIGHEST = {1000000, 1000, 1000, 1000, 1000, 1000000, 1000};
        private static final int[] WITHOUT = {0, 0, 0, 0, 0, 0, 1};

        // Eight levels can each leave five numbers waiting.
        private static final int HIGHEST_STACK = 64;

        int texts;
        private final Text[] text = new Text[MOST_TEXTS];
        private int inForce = NONE;
        private final long[] variables = new long[VARIABLES];
        private final long[] values = new long[Text.MOST_DEFS];
        private final boolean[] isNone = new boolean[Text.MOST_DEFS];
        private final long[] stack = new long[HIGHEST_STACK];
        private final boolean[] stackNone = new boolean[HIGHEST_STACK];
        private int height;

        Asker() {
            for (int i = 0; i < MOST_TEXTS; i++) {
                text[i] = new Text();
            }
        }

        void adopt(Text draft, int from) {
            text[texts].copyFrom(draft);
            text[texts].from = from;
            texts++;
        }

        /** What is told and asked from here on is of the TEXT in force in this WEEK. */
        void begin(int week) {
            Arrays.fill(variables, 0);
            inForce = NONE;
            for (int i = 0; i < texts; i++) {
                boolean began = text[i].from <= week;
                if (began && (inForce == NONE || text[i].from >= text[inForce].from)) {
                    inForce = i;
                }
            }
        }

        void tell(int variable, long v) {
            variables[variable] = v;
        }

        void tellWeek(int week) {
            variables[WEEK] = week;
            variables[YEAR] = week / WEEKS_A_YEAR;
        }

        int ask(int what) {
            long answer = WITHOUT[what];
            int def = inForce == NONE ? NONE : text[inForce].asked[what];
            if (def != NONE) {
                reckonDefs(text[inForce], def);
                answer = isNone[def] ? answer : values[def];
            }
            return (int) Math.max(LOWEST[what], Math.min(HIGHEST[what], answer));
        }

        // Each DEF once, in their order: a DEF that is named many times costs no more than one.
        private void reckonDefs(Text of, int lastDef) {
            for (int def = 0; def <= lastDef; def++) {
                height = 0;
                for (int place = of.startOf(def); place < of.ends[def]; place++) {
                    playStep(of.stepAt(place), of.numberAt(place));
                }
                values[def] = stack[0];
                isNone[def] = stackNone[0];
            }
        }

        private void playStep(int step, int number) {
            switch (step) {
                case Text.NUMBER:
                    push(number, false);
                    break;
                case Text.VARIABLE:
                    push(variables[number], false);
                    break;
                case Text.DEF:
                    push(values[number], isNone[number]);
                    break;
                case Text.CHOOSE:
                    choose();
                    break;
                case Text.AND:
                case Text.OR:
                    joinTests(step);
                    break;
                case Text.LESS:
                case Text.GREATER:
                case Text.SAME:
                    compare(step, number == 1);
                    break;
                default:
                    joinNumbers(step);
            }
        }

        private void push(long v, boolean none) {
            if (height < HIGHEST_STACK) {
                stack[height] = v;
                stackNone[height] = none;
                height++;
            }
        }

        private void choose() {
            if (height < 3) {
                return;
            }
            height -= 2;
            int chosen = stack[height - 1] != 0 ? height : height + 1;
            stack[height - 1] = stack[chosen];
            stackNone[height - 1] = stackNone[chosen];
        }

        private void joinTests(int step) {
            if (height < 2) {
                return;
            }
            height--;
            long one = stack[height - 1];
            long other = stack[height];
            stack[height - 1] = step == Text.AND ? one & other : one | other;
        }

        // A ONE with none in it does not hold, whether there is a not ahead of it or not.
        private void compare(int step, boolean isNot) {
            if (height < 2) {
                return;
            }
            height--;
            boolean none = stackNone[height - 1] || stackNone[height];
            int order = Long.compare(stack[height - 1], stack[height]);
            boolean is = step == Text.LESS ? order < 0 : step == Text.GREATER ? order > 0 : order == 0;
            stack[height - 1] = !none && is != isNot ? 1 : 0;
            stackNone[height - 1] = false;
        }

        private void joinNumbers(int step) {
            if (height < 2) {
                return;
            }
            height--;
            long right = stack[height];
            boolean byZero = right == 0 && (step == Text.DIVIDE || step == Text.REMAINDER);
            boolean none = stackNone[height - 1] || stackNone[height] || byZero;
            stackNone[height - 1] = none;
            stack[height - 1] = none ? 0 : joined(step, stack[height - 1], right);
        }

        private static long joined(int step, long left, long right) {
            switch (step) {
                case Text.ADD:
                    return left + right;
                case Text.SUBTRACT:
                    return left - right;
                case Text.MULTIPLY:
                    return left * right;
                case Text.DIVIDE:
                    return right == 0 ? 0 : left / right;
                case Text.REMAINDER:
                    return right == 0 ? 0 : left % right;
                case Text.LEAST:
                    return left < right ? left : right;
                default:
                    return left > right ? left : right;
            }
        }
    }

    /** The EVENTS known by a WEEK, played anew: what lies where, and what became of the rest. */
    private static final class Play {
        static final int DOCKED = 0;
        static final int TURNED = 1;
        static final int SOLD = 2;
        static final int SPOILT = 3;
        static final int SHORT = 4;

        private static final int SLOTS_A_PLACE = GRADES * YEARS;
        private static final int SLOTS = (ELEVATORS + PORTS) * SLOTS_A_PLACE;
        private static final int CAR_BUSHELS = 1000;
        private static final int UNGRADED = 5;
        private static final int BELOW_ALL_RANKS = -1000001;

        final Prairie prairie;
        final Journal journal;
        private final Asker asker;
        // How many EVENTS are known, and what each of them moved indeed.
        int played;
        final int[] moved = new int[Journal.MOST_EVENTS];
        // The GRADE of each LOAD, as known by the WEEK judged latest.
        final int[] judged = new int[Journal.MOST_EVENTS];
        private final int[] bestRank = new int[Journal.MOST_EVENTS];
        final int[] cars = new int[ELEVATORS];
        private final int[] turn = new int[ELEVATORS];

        // Few BINS are ever used: each that is has a row of FARMS, found by its slot.
        private final int[] rowOf = new int[SLOTS];
        private int rows;
        private final long[] held = new long[Journal.MOST_EVENTS * FARMS];
        private final int[] filled = new int[ELEVATORS];
        private final int[] totals = new int[SHORT * FARMS];
        private int lacking;
        private final long[] has = new long[FARMS];
        private final long[] parts = new long[FARMS];
        private final long[] rests = new long[FARMS];

        Play(Prairie prairie, Journal journal, Asker asker) {
            this.prairie = prairie;
            this.journal = journal;
            this.asker = asker;
        }

        static int slotOfBin(int elevator, int grade, int year) {
            return elevator * SLOTS_A_PLACE + grade * YEARS + year;
        }

        static int slotOfPort(int port, int grade, int year) {
            return slotOfBin(ELEVATORS + port, grade, year);
        }

        void judge(int known) {
            Arrays.fill(judged, UNGRADED);
            Arrays.fill(bestRank, BELOW_ALL_RANKS);
            for (int number = 0; number < journal.gradings; number++) {
                int load = journal.gradedLoad[number];
                int rank = journal.rank[number];
                if (journal.gradingKnown[number] <= known && rank >= bestRank[load]) {
                    bestRank[load] = rank;
                    judged[load] = journal.givenGrade[number];
                }
            }
        }

        void replay(int known) {
            Arrays.fill(rowOf, NONE);
            rows = 0;
            Arrays.fill(filled, 0);
            Arrays.fill(totals, 0);
            lacking = 0;
            judge(known);
            played = journal.countKnownBy(known);
            for (int event = 0; event < played; event++) {
                playEvent(event);
            }
        }

        int bushelsAt(int slot, int farm) {
            int row = rowOf[slot];
            if (row == NONE) {
                return 0;
            }
            if (farm != NONE) {
                return (int) held[row * FARMS + farm];
            }
            long all = 0;
            for (int i = 0; i < FARMS; i++) {
                all += held[row * FARMS + i];
            }
            return (int) all;
        }

        int totalOf(int what, int farm) {
            if (what == SHORT) {
                return lacking;
            }
            if (farm != NONE) {
                return totals[what * FARMS + farm];
            }
            int all = 0;
            for (int i = 0; i < FARMS; i++) {
                all += totals[what * FARMS + i];
            }
            return all;
        }

        private void playEvent(int event) {
            int grade = journal.grade[event];
            int year = journal.year[event];
            int elevator = journal.elevator[event];
            int port = journal.port[event];
            switch (journal.kind[event]) {
                case Journal.LOAD:
                    bring(event, elevator);
                    break;
                case Journal.CAR:
                    takeParts(event, slotOfBin(elevator, grade, year));
                    filled[elevator] -= moved[event];
                    addParts(openRow(slotOfPort(port, grade, year)));
                    break;
                case Journal.SALE:
                    takeParts(event, slotOfPort(port, grade, year));
                    countParts(SOLD);
                    break;
                default:
                    takeParts(event, slotOfBin(elevator, grade, year));
                    filled[elevator] -= moved[event];
                    countParts(SPOILT);
            }
        }

        private void bring(int event, int elevator) {
            int farm = journal.farm[event];
            int net = journal.netOf(event);
            int comes = Math.min(net, prairie.room[elevator] - filled[elevator]);
            moved[event] = comes;
            filled[elevator] += comes;
            totals[DOCKED * FARMS + farm] += journal.docked[event];
            totals[TURNED * FARMS + farm] += net - comes;
            int row = openRow(slotOfBin(elevator, judged[event], journal.year[event]));
            held[row * FARMS + farm] += comes;
        }

        // A LOAD opens one row at most, and so does a CAR: there are as many rows as EVENTS.
        private int openRow(int slot) {
            if (rowOf[slot] == NONE) {
                rowOf[slot] = rows;
                for (int farm = 0; farm < FARMS; farm++) {
                    held[rows * FARMS + farm] = 0;
                }
                rows++;
            }
            return rowOf[slot];
        }

        private void takeParts(int event, int slot) {
            int asked = journal.bushels[event];
            int taken = Math.min(asked, bushelsAt(slot, NONE));
            moved[event] = taken;
            lacking += asked - taken;
            Arrays.fill(parts, 0);
            int row = rowOf[slot];
            if (row == NONE) {
                return;
            }
            System.arraycopy(held, row * FARMS, has, 0, FARMS);
            part(taken, has, parts);
            for (int farm = 0; farm < FARMS; farm++) {
                held[row * FARMS + farm] -= parts[farm];
            }
        }

        private void addParts(int row) {
            for (int farm = 0; farm < FARMS; farm++) {
                held[row * FARMS + farm] += parts[farm];
            }
        }

        private void countParts(int what) {
            for (int farm = 0; farm < FARMS; farm++) {
                totals[what * FARMS + farm] += (int) parts[farm];
            }
        }

        /** Parts an amount among FARMS by what they have: what rounding leaves goes to the greatest rests. */
        void part(long amount, long[] by, long[] into) {
            long all = 0;
            for (int farm = 0; farm < FARMS; farm++) {
                all += by[farm];
                into[farm] = 0;
            }
            if (all <= 0) {
                return;
            }
            long left = amount;
            for (int farm = 0; farm < FARMS; farm++) {
                into[farm] = amount * by[farm] / all;
                rests[farm] = amount * by[farm] % all;
                left -= into[farm];
            }
            for (int i = 0; i < left && i < FARMS; i++) {
                int farm = placeOfGreatest(rests);
                into[farm]++;
                rests[farm] = NONE;
            }
        }

        private static int placeOfGreatest(long[] row) {
            int found = 0;
            for (int i = 1; i < row.length; i++) {
                if (row[i] > row[found]) {
                    found = i;
                }
            }
            return found;
        }

        // ---- CARS by turns

        void giveCars(int week, int n) {
            Arrays.fill(cars, 0);
            asker.begin(week);
            asker.tellWeek(week);
            for (int elevator = 0; elevator < prairie.elevators; elevator++) {
                turn[elevator] = turnOf(elevator);
            }
            for (int car = 0; car < n; car++) {
                int next = nextForCar();
                if (next == NONE) {
                    return;
                }
                cars[next]++;
                // What the others are asked of has not changed.
                turn[next] = turnOf(next);
            }
        }

        private int nextForCar() {
            int next = NONE;
            for (int elevator = 0; elevator < prairie.elevators; elevator++) {
                if (waitsAt(elevator) > 0 && (next == NONE || turn[elevator] > turn[next])) {
                    next = elevator;
                }
            }
            return next;
        }

        private int waitsAt(int elevator) {
            return Math.max(0, filled[elevator] - CAR_BUSHELS * cars[elevator]);
        }

        private int turnOf(int elevator) {
            asker.tell(Asker.CARS, cars[elevator]);
            asker.tell(Asker.WAITS, waitsAt(elevator));
            asker.tell(Asker.DISTRICT, prairie.elevatorDistrict[elevator]);
            return asker.ask(Asker.TURN);
        }
    }

    /** What is PAID for a YEAR, what is OWED, and what FARMS would have had ALONE. */
    private static final class Payments {
        final int[] prices = new int[WEEKS];
        int step = 10;
        int lag = 2;

        final long[] firsts = new long[FARMS];
        long lacking;
        long stoodFor;
        final long[] owes = new long[FARMS];

        private final Play play;
        private final Asker asker;
        private final long[] came = new long[GRADES];
        private final long[] kept = new long[GRADES];
        // FARM by FARM for each GRADE.
        private final long[] brought = new long[GRADES * FARMS];
        private final long[] parted = new long[FARMS];
        private final long[] by = new long[FARMS];
        private final long[] parts = new long[FARMS];

        Payments(Play play, Asker asker) {
            this.play = play;
            this.asker = asker;
        }

        void reckon(int year, int known) {
            play.replay(known);
            Arrays.fill(came, 0);
            Arrays.fill(brought, 0);
            for (int event = 0; event < play.played; event++) {
                if (play.journal.year[event] == year) {
                    gather(event);
                }
            }
            Arrays.fill(firsts, 0);
            Arrays.fill(parted, 0);
            for (int grade = 0; grade < GRADES; grade++) {
                payFor(grade, year);
            }
        }

        private void gather(int event) {
            Journal journal = play.journal;
            int moved = play.moved[event];
            if (journal.kind[event] == Journal.LOAD) {
                brought[play.judged[event] * FARMS + journal.farm[event]] += moved;
            } else if (journal.kind[event] == Journal.SALE) {
                came[journal.grade[event]] += (long) moved * journal.pence[event];
            }
        }

        private void beginLastWeekOf(int year) {
            asker.begin(year * WEEKS_A_YEAR + WEEKS_A_YEAR - 1);
            asker.tell(Asker.YEAR, year);
        }

        private void payFor(int grade, int year) {
            beginLastWeekOf(year);
            asker.tell(Asker.GRADE, grade);
            long first = asker.ask(Asker.FIRST);
            kept[grade] = came[grade] * asker.ask(Asker.HELD) / THOUSAND;
            System.arraycopy(brought, grade * FARMS, by, 0, FARMS);
            play.part(came[grade] - kept[grade], by, parts);
            for (int farm = 0; farm < FARMS; farm++) {
                firsts[farm] += first * by[farm];
                parted[farm] += parts[farm];
            }
        }

        long ofGrade(int grade, int what) {
            return what == 0 ? came[grade] : what == 1 ? kept[grade] : broughtOfGrade(grade);
        }

        private long broughtOfGrade(int grade) {
            long all = 0;
            for (int farm = 0; farm < FARMS; farm++) {
                all += brought[grade * FARMS + farm];
            }
            return all;
        }

        long lastOf(int farm) {
            return parted[farm] - firsts[farm];
        }

        /** Behind reckon: whether the YEAR is BELOW, and the parts of what is OWED then. */
        void reckonOwed(int year) {
            long together = 0;
            for (int farm = 0; farm < FARMS; farm++) {
                together += lastOf(farm);
                by[farm] = Math.max(0, -lastOf(farm));
            }
            lacking = Math.max(0, -together);
            beginLastWeekOf(year);
            stoodFor = lacking * asker.ask(Asker.STAND) / THOUSAND;
            play.part(lacking - stoodFor, by, owes);
        }

        long aloneOf(int farm, int year) {
            Journal journal = play.journal;
            long all = 0;
            for (int event = 0; event < play.played; event++) {
                boolean isLoad = journal.kind[event] == Journal.LOAD;
                if (isLoad && journal.farm[event] == farm && journal.year[event] == year) {
                    all += (long) play.moved[event] * priceOf(event);
                }
            }
            return all;
        }

        private int priceOf(int load) {
            int week = Math.max(0, play.journal.week[load] - lag);
            return Math.max(0, prices[week] - play.judged[load] * step);
        }

        int countBetterOff(int year) {
            int count = 0;
            for (int farm = 0; farm < FARMS; farm++) {
                // FIRST and LAST together are what was PARTED; a FARM that BROUGHT none has none of it.
                if (parted[farm] > aloneOf(farm, year)) {
                    count++;
                }
            }
            return count;
        }
    }

    /** What FARMS sold OUTSIDE, and what that costs them. */
    private static final class Outsides {
        static final int MOST = 60;

        int count;
        private final Prairie prairie;
        private final Asker asker;
        private final int[] farm = new int[MOST];
        private final int[] week = new int[MOST];
        private final int[] bushels = new int[MOST];
        private final int[] pence = new int[MOST];

        Outsides(Prairie prairie, Asker asker) {
            this.prairie = prairie;
            this.asker = asker;
        }

        int add(int itsFarm, int itsWeek, int itsBushels, int itsPence) {
            int number = count;
            farm[number] = itsFarm;
            week[number] = itsWeek;
            bushels[number] = itsBushels;
            pence[number] = itsPence;
            count++;
            return number;
        }

        /** Pence a bushel that an OUTSIDE costs: 0 if it is no BREACH. */
        int penceFor(int number) {
            if (!prairie.isBound(farm[number], week[number] / WEEKS_A_YEAR)) {
                return 0;
            }
            asker.begin(week[number]);
            asker.tellWeek(week[number]);
            prairie.tellOf(farm[number], asker);
            asker.tell(Asker.BUSHELS, bushels[number]);
            asker.tell(Asker.PRICE, pence[number]);
            return asker.ask(Asker.BREACH);
        }

        long costOf(int ofFarm, int year) {
            long all = 0;
            for (int number = 0; number < count; number++) {
                if (farm[number] == ofFarm && week[number] / WEEKS_A_YEAR == year) {
                    all += (long) penceFor(number) * bushels[number];
                }
            }
            return all;
        }
    }

    /** Votes in a WEEK, and on whom they hang. */
    private static final class Ballot {
        private static final int MANY = 1000;
        private static final int SUMS = 2 * DISTRICTS + 1;

        // Votes for, less those against.
        final int[] margins = new int[DISTRICTS];

        private final Prairie prairie;
        private final Asker asker;
        private final int[] votes = new int[FARMS];
        private final int[] byVotes = new int[FARMS];
        private final boolean[] isFree = new boolean[FARMS];
        // Margins, seen from the side that would turn the whole.
        private final int[] gains = new int[DISTRICTS];
        private final int[] fewest = new int[SUMS];
        private final int[] before = new int[SUMS];

        Ballot(Prairie prairie, Asker asker) {
            this.prairie = prairie;
            this.asker = asker;
        }

        void count(int week) {
            Arrays.fill(margins, 0);
            asker.begin(week);
            asker.tellWeek(week);
            for (int farm = 0; farm < prairie.farms; farm++) {
                prairie.tellOf(farm, asker);
                votes[farm] = asker.ask(Asker.VOTES);
                if (prairie.voted[farm] == 1) {
                    margins[prairie.farmDistrict[farm]] += votes[farm];
                } else if (prairie.voted[farm] == 0) {
                    margins[prairie.farmDistrict[farm]] -= votes[farm];
                }
            }
        }

        boolean isWholeFor() {
            int districts = 0;
            for (int district = 0; district < DISTRICTS; district++) {
                districts += Integer.compare(margins[district], 0);
            }
            return districts > 0;
        }

        /** From the last FARM on, each that is not needed is left out: so the set is the least. */
        int leastSetThatTurns() {
            int goal = prepareToTurn();
            int lack = fewestToReach(goal);
            if (lack >= MANY) {
                return NONE;
            }
            int set = 0;
            for (int farm = prairie.farms - 1; farm >= 0; farm--) {
                boolean wasFree = isFree[farm];
                isFree[farm] = false;
                if (wasFree && fewestToReach(goal) > lack) {
                    set |= 1 << farm;
                    gains[prairie.farmDistrict[farm]] += votes[farm];
                    lack--;
                }
            }
            return set;
        }

        // How many more DISTRICTS must be won than lost: to keep the whole from being for, none.
        private int prepareToTurn() {
            boolean isFor = isWholeFor();
            for (int district = 0; district < DISTRICTS; district++) {
                gains[district] = isFor ? -margins[district] : margins[district];
            }
            for (int farm = 0; farm < prairie.farms; farm++) {
                isFree[farm] = prairie.voted[farm] == NONE;
                sortIn(farm);
            }
            return isFor ? 0 : 1;
        }

        // The FARMS with most votes first.
        private void sortIn(int farm) {
            int place = farm;
            while (place > 0 && votes[byVotes[place - 1]] < votes[farm]) {
                byVotes[place] = byVotes[place - 1];
                place--;
            }
            byVotes[place] = farm;
        }

        // The fewest free FARMS with which so many more DISTRICTS are won than lost; MANY if none do.
        private int fewestToReach(int goal) {
            Arrays.fill(fewest, MANY);
            fewest[DISTRICTS] = 0;
            for (int district = 0; district < DISTRICTS; district++) {
                System.arraycopy(fewest, 0, before, 0, SUMS);
                int toEven = fewestToGain(district, 0);
                int toWin = fewestToGain(district, 1);
                for (int sum = 0; sum < SUMS; sum++) {
                    int lost = sum + 1 < SUMS ? before[sum + 1] : MANY;
                    int won = sum > 0 ? before[sum - 1] + toWin : MANY;
                    fewest[sum] = Math.min(lost, Math.min(won, before[sum] + toEven));
                }
            }
            int found = MANY;
            for (int sum = DISTRICTS + goal; sum < SUMS; sum++) {
                found = Math.min(found, fewest[sum]);
            }
            return found;
        }

        private int fewestToGain(int district, int goal) {
            int gain = gains[district];
            int count = 0;
            for (int i = 0; i < prairie.farms && gain < goal; i++) {
                int farm = byVotes[i];
                if (isFree[farm] && prairie.farmDistrict[farm] == district) {
                    gain += votes[farm];
                    count++;
                }
            }
            return gain < goal ? MANY : count;
        }
    }

    /** Bins that warm and are turned in time, and wheat sent to orders at least cost. */
    private static final class Yard {
        static final int WARM_BINS = 8;
        static final int TURNING_WEEKS = 20;
        static final int SENDING_BINS = 5;
        static final int ORDERS = 4;
        // Each carries a bushel at least, and no more are wanted.
        private static final int MOST_CARRIED = 120;
        private static final int FAR = 1000000;

        final int[] weeksLeft = new int[WARM_BINS];
        final int[] bushels = new int[WARM_BINS];
        boolean hasPlan;
        final int[] plan = new int[TURNING_WEEKS];
        // For each set of bins that are turned: the most that others can still save.
        private final int[] mostBehind = new int[1 << WARM_BINS];

        final int[] left = new int[SENDING_BINS];
        final int[] wanted = new int[ORDERS];
        final int[] costs = new int[SENDING_BINS * ORDERS];
        private final int[] sent = new int[SENDING_BINS * ORDERS];
        private final int[] costToBin = new int[SENDING_BINS];
        private final int[] orderAheadOf = new int[SENDING_BINS];
        private final int[] costToOrder = new int[ORDERS];
        private final int[] binAheadOf = new int[ORDERS];

        // ---- WARM

        // No WEEK is left idle ahead of a bin that is turned: so a set of bins tells the WEEK.
        int planTurning(int bins) {
            for (int set = (1 << bins) - 1; set >= 0; set--) {
                int most = 0;
                for (int bin = 0; bin < bins; bin++) {
                    most = Math.max(most, savedWith(set, bin));
                }
                mostBehind[set] = most;
            }
            writePlan(bins);
            return mostBehind[0];
        }

        private int savedWith(int set, int bin) {
            boolean canTurn = (set & 1 << bin) == 0 && Integer.bitCount(set) < weeksLeft[bin];
            return canTurn ? bushels[bin] + mostBehind[set | 1 << bin] : 0;
        }

        private void writePlan(int bins) {
            hasPlan = true;
            int set = 0;
            for (int week = 0; week < TURNING_WEEKS; week++) {
                plan[week] = NONE;
                for (int bin = bins - 1; bin >= 0 && mostBehind[set] > 0; bin--) {
                    if (savedWith(set, bin) == mostBehind[set]) {
                        plan[week] = bin;
                    }
                }
                set |= plan[week] == NONE ? 0 : 1 << plan[week];
            }
        }

        // ---- SENT

        /** Again and again by the cheapest way that is left, which may take back what was sent. */
        int leastCost(int bins, int orders) {
            Arrays.fill(sent, 0);
            for (int carried = 0; carried < MOST_CARRIED; carried++) {
                findWays(bins, orders);
                int order = cheapestOrder(orders);
                if (order == NONE) {
                    break;
                }
                carry(order, orders, greatestLoad(order, orders));
            }
            int all = 0;
            for (int way = 0; way < bins * orders; way++) {
                all += sent[way] * costs[way];
            }
            return all;
        }

        private void findWays(int bins, int orders) {
            for (int bin = 0; bin < bins; bin++) {
                costToBin[bin] = left[bin] > 0 ? 0 : FAR;
                orderAheadOf[bin] = NONE;
            }
            for (int order = 0; order < orders; order++) {
                costToOrder[order] = FAR;
                binAheadOf[order] = NONE;
            }
            boolean changed = true;
            for (int round = 0; round < bins + orders && changed; round++) {
                changed = false;
                for (int bin = 0; bin < bins; bin++) {
                    for (int order = 0; order < orders; order++) {
                        changed |= goOn(bin, order, bin * orders + order);
                    }
                }
            }
        }

        private boolean goOn(int bin, int order, int way) {
            boolean changed = false;
            if (costToBin[bin] < FAR && costToBin[bin] + costs[way] < costToOrder[order]) {
                costToOrder[order] = costToBin[bin] + costs[way];
                binAheadOf[order] = bin;
                changed = true;
            }
            if (sent[way] > 0 && costToOrder[order] - costs[way] < costToBin[bin]) {
                costToBin[bin] = costToOrder[order] - costs[way];
                orderAheadOf[bin] = order;
                changed = true;
            }
            return changed;
        }

        private int cheapestOrder(int orders) {
            int found = NONE;
            for (int order = 0; order < orders; order++) {
                boolean open = wanted[order] > 0 && costToOrder[order] < FAR;
                if (open && (found == NONE || costToOrder[order] < costToOrder[found])) {
                    found = order;
                }
            }
            return found;
        }

        private int greatestLoad(int order, int orders) {
            int most = wanted[order];
            int to = order;
            for (int i = 0; i < SENDING_BINS && to != NONE && binAheadOf[to] != NONE; i++) {
                int bin = binAheadOf[to];
                to = orderAheadOf[bin];
                most = Math.min(most, to == NONE ? left[bin] : sent[bin * orders + to]);
            }
            return most;
        }

        private void carry(int order, int orders, int load) {
            wanted[order] -= load;
            int to = order;
            for (int i = 0; i < SENDING_BINS && to != NONE && binAheadOf[to] != NONE; i++) {
                int bin = binAheadOf[to];
                sent[bin * orders + to] += load;
                to = orderAheadOf[bin];
                if (to == NONE) {
                    left[bin] -= load;
                } else {
                    sent[bin * orders + to] -= load;
                }
            }
        }
    }
}
