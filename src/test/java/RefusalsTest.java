import java.lang.reflect.InvocationTargetException;
import java.lang.reflect.Method;
import java.util.ArrayList;
import java.util.List;
import java.util.function.Supplier;

/**
 * Part 6 of the document: each argument of each call at both its edges and just behind them, any two of
 * them wrong at once, and that what is refused changes nothing. The latter is seen on twins: two objects
 * that are made alike, of which one has had the refused call.
 */
public final class RefusalsTest {
    private static final Check CHECK = new Check("RefusalsTest");
    private static final int MIN = Integer.MIN_VALUE;
    private static final int MAX = Integer.MAX_VALUE;

    /** A good one, the least and the greatest that are good too, and the STATUS of those out of these. */
    private record Arg(int good, int least, int most, int below, int above) { }

    /** The STATUS numbers stand in the order in which they are asked. */
    private record Call(String name, int[] order, Arg... args) { }

    public static void main(String[] args) {
        CHECK.says("STATUS of a call is the first of these that holds", RefusalsTest::edges);
        CHECK.says("A call with another STATUS than 0 gives NONE, or false, and changes nothing but STATUS",
                RefusalsTest::changeNothing);
        CHECK.says("7 one too many", RefusalsTest::tooMany);
        CHECK.says("12 a WEEK that is gone", RefusalsTest::gone);
        CHECK.says("(but a TEXT with a FAULT the tape, and what fault() tells)", RefusalsTest::faults);
        CHECK.says("The STATUS of the latest call that has one", RefusalsTest::latest);
        CHECK.says("status(), fault(), feed() have none", RefusalsTest::haveNone);
        CHECK.says("TRAYS are MISSING, no FARMS, ELEVATORS, EVENTS, TEXTS, an empty tape; STEP 10, LAG 2; STATUS 0",
                RefusalsTest::newObject);
        CHECK.end();
    }

    // ---- the calls

    private static Arg arg(int good, int least, int most, int status) {
        return new Arg(good, least, most, status, status);
    }

    private static Call call(String name, int[] order, Arg... args) {
        return new Call(name, order, args);
    }

    private static int[] order(int... statuses) {
        return statuses;
    }

    private static final Arg TRAY = arg(0, 0, 3, 1);
    private static final Arg FARM = arg(0, 0, 2, 2);
    private static final Arg FARM_OR_NONE = arg(0, -1, 2, 2);
    private static final Arg ELEVATOR = arg(0, 0, 1, 2);
    private static final Arg LOAD = arg(0, 0, 2, 2);
    private static final Arg SIX = arg(0, 0, 5, 2);
    private static final Arg PORT = arg(0, 0, 1, 2);
    private static final Arg YEAR = arg(0, 0, 9, 5);
    private static final Arg WEEK = arg(0, 0, 519, 5);
    private static final Arg KNOWN = arg(519, 0, 519, 5);
    private static final Arg PENCE = arg(0, 0, 1000, 5);
    private static final Arg ANY = arg(1, MIN, MAX, 0);

    private static List<Call> calls() {
        List<Call> all = new ArrayList<>();
        all.add(call("tray", order(1, 5, 6), TRAY, TRAY, new Arg(2, 0, 40, 6, 5)));
        all.add(call("write", order(1, 3, 4), TRAY, arg(0, 0, 19, 4), ANY));
        all.add(call("read", order(1, 3, 4), TRAY, arg(0, 0, 19, 4)));
        all.add(call("pour", order(1, 3, 11, 6, 4), TRAY, arg(0, 0, 18, 4), TRAY, arg(0, 0, 18, 4),
                new Arg(2, 0, 20, 6, 4)));
        all.add(call("farm", order(2, 5, 7), SIX, arg(1, 1, 5000, 5), arg(0, 0, 100000, 5)));
        all.add(call("elevator", order(2, 5, 7), SIX, arg(1, 1, 1000000, 5)));
        all.add(call("load", order(2, 5, 7, 12), FARM, ELEVATOR, arg(1, 1, 10000, 5), PENCE, WEEK, KNOWN));
        all.add(call("car", order(2, 5, 7, 12), ELEVATOR, PORT, SIX, YEAR, arg(1, 1, 100000, 5), WEEK, KNOWN));
        all.add(call("sale", order(2, 5, 7, 12), PORT, SIX, YEAR, arg(1, 1, 100000, 5), PENCE, WEEK, KNOWN));
        all.add(call("spoil", order(2, 5, 7, 12), ELEVATOR, SIX, YEAR, arg(1, 1, 100000, 5), WEEK, KNOWN));
        all.add(call("grading", order(2, 5, 7, 12), LOAD, SIX, SIX, KNOWN));
        all.add(call("grade", order(2, 5, 8), LOAD, WEEK));
        all.add(call("bin", order(2, 5), ELEVATOR, SIX, YEAR, FARM_OR_NONE, WEEK));
        all.add(call("port", order(2, 5), PORT, SIX, YEAR, FARM_OR_NONE, WEEK));
        all.add(call("sum", order(2, 5), FARM_OR_NONE, arg(0, 0, 3, 5), WEEK));
        all.add(call("acts", order(5, 7, 10), arg(20, 0, 20, 5), WEEK));
        addPaid(all);
        addOthers(all);
        return all;
    }

    private static void addPaid(List<Call> all) {
        all.add(call("paid", order(2, 5), YEAR, SIX, arg(0, 0, 2, 5), WEEK));
        all.add(call("last", order(2, 5), FARM, YEAR, WEEK));
        all.add(call("first", order(2, 5), FARM, YEAR, WEEK));
        all.add(call("below", order(5), YEAR, arg(0, 0, 1, 5), WEEK));
        all.add(call("owed", order(2, 5), FARM, YEAR, WEEK));
        all.add(call("turns", order(2, 5), WEEK, arg(1, 1, 20, 5), ELEVATOR));
        all.add(call("sign", order(2, 5), FARM, YEAR, arg(9, 0, 9, 5)));
        all.add(call("let", order(2, 5), FARM, YEAR, ANY));
        all.add(call("outside", order(2, 5, 7), FARM, WEEK, arg(1, 1, 10000, 5), PENCE));
        all.add(call("breach", order(8), arg(0, 0, 3, 8)));
        all.add(call("cost", order(2, 5), FARM, YEAR));
        all.add(call("price", order(5), WEEK, PENCE));
        all.add(call("rules", order(5), arg(1, 0, 100, 5), arg(1, 0, 20, 5)));
        all.add(call("alone", order(2, 5), FARM, YEAR, WEEK));
        all.add(call("more", order(5), YEAR, WEEK));
    }

    private static void addOthers(List<Call> all) {
        all.add(call("vote", order(2, 5), FARM, arg(1, -1, 1, 5)));
        all.add(call("result", order(2, 5), arg(0, -1, 5, 2), WEEK));
        all.add(call("hangs", order(5), WEEK));
        all.add(call("warm", order(1, 3, 5, 4), TRAY, TRAY, arg(2, 1, 8, 5)));
        all.add(call("turned", order(8), arg(0, 0, 19, 8)));
        all.add(call("send", order(1, 3, 5, 4, 9), TRAY, arg(5, 1, 5, 5), TRAY, arg(1, 1, 4, 5), TRAY));
    }

    private static Call named(String name) {
        for (Call c : calls()) {
            if (c.name.equals(name)) {
                return c;
            }
        }
        throw new IllegalArgumentException(name);
    }

    private static Method method(String name) {
        for (Method m : PrairiePool.class.getMethods()) {
            if (m.getName().equals(name) && m.getDeclaringClass() == PrairiePool.class) {
                return m;
            }
        }
        throw new IllegalArgumentException(name);
    }

    private static long make(PrairiePool x, Call c, int[] given) {
        Method m = method(c.name);
        Class<?>[] types = m.getParameterTypes();
        Object[] objects = new Object[given.length];
        for (int i = 0; i < given.length; i++) {
            objects[i] = types[i] == boolean.class ? (Object) (given[i] != 0)
                    : types[i] == long.class ? (Object) (long) given[i] : (Object) given[i];
        }
        try {
            Object got = m.invoke(x, objects);
            return got instanceof Boolean b ? (b ? 1 : -1) : ((Number) got).longValue();
        } catch (IllegalAccessException | InvocationTargetException e) {
            CHECK.due(told(c, given) + " throws " + e.getCause(), 1, 0);
            return -1;
        }
    }

    private static String told(Call c, int[] given) {
        StringBuilder s = new StringBuilder(c.name).append('(');
        for (int i = 0; i < given.length; i++) {
            s.append(i == 0 ? "" : ", ").append(given[i]);
        }
        return s.append(')').toString();
    }

    private static int[] good(Call c) {
        int[] given = new int[c.args.length];
        for (int i = 0; i < given.length; i++) {
            given[i] = c.args[i].good;
        }
        return given;
    }

    // Just below the least, far below it, just above the greatest, far above it; none of one that may be any.
    private static int[] wrong(Arg a) {
        return a.below == 0 ? new int[0] : new int[] {a.least - 1, MIN, a.most + 1, MAX};
    }

    private static int statusOf(Arg a, int v) {
        return v < a.least ? a.below : v > a.most ? a.above : 0;
    }

    private static int first(Call c, int one, int other) {
        for (int status : c.order) {
            if (status == one || status == other) {
                return status;
            }
        }
        throw new IllegalArgumentException(c.name + " has no STATUS " + one);
    }

    // ---- an object in which all of them can be good

    private static PrairiePool ready() {
        PrairiePool x = new PrairiePool();
        for (int tray = 0; tray < 4; tray++) {
            x.tray(tray, 2, 20);
            for (int place = 0; place < 20; place++) {
                x.write(tray, place, 1 + (place * 3 + tray) % 8);
            }
        }
        x.farm(0, 10, 0);
        x.farm(1, 20, 5);
        x.farm(1, 30, 7);
        x.elevator(0, 3000);
        x.elevator(1, 50);
        x.load(0, 0, 1500, 100, 0, 0);
        x.load(1, 0, 100, 0, 0, 0);
        x.load(2, 1, 70, 0, 0, 0);
        x.car(0, 0, 5, 0, 40, 0, 0);
        x.sale(0, 5, 0, 30, 9, 0, 0);
        x.spoil(1, 5, 0, 60, 0, 0);
        x.grading(1, 2, 3, 0);
        for (int i = 0; i < 4; i++) {
            x.outside(i % 3, i * 40, 3 + i, 7);
        }
        Check.acts(x, "rank:grader;first:1;held:100;stand:200;breach:price;turn:waits;votes:acres;", 0);
        Check.feed(x, "a:1;b:2;c:3;d:4;e:5;");
        x.sign(0, 0, 4);
        x.sign(1, 0, 9);
        x.let(1, 0, true);
        x.vote(0, 1);
        x.vote(1, 0);
        x.price(0, 90);
        x.warm(0, 1, 5);
        return x;
    }

    // All that can be asked, and then what comes next.
    private static List<Long> tellAll(PrairiePool x) {
        List<Long> all = new ArrayList<>();
        for (int tray = 0; tray < 4; tray++) {
            for (int place : new int[] {0, 1, 19, 20, 39}) {
                all.add(x.read(tray, place));
                all.add((long) x.status());
            }
        }
        for (int i = 0; i < 20; i++) {
            all.add((long) x.turned(i));
        }
        all.add((long) x.fault(0));
        all.add((long) x.fault(1));
        tellStores(x, all);
        tellMoney(x, all);
        tellNext(x, all);
        return all;
    }

    private static void tellStores(PrairiePool x, List<Long> all) {
        for (int i = 0; i < 3; i++) {
            all.add((long) x.grade(i, 0));
            all.add((long) x.grade(i, 519));
        }
        for (int elevator = 0; elevator < 2; elevator++) {
            for (int farm = -1; farm < 3; farm++) {
                all.add((long) x.bin(elevator, 5, 0, farm, 519));
                all.add((long) x.bin(elevator, 3, 0, farm, 519));
            }
            all.add((long) x.port(elevator, 5, 0, -1, 519));
            all.add((long) x.turns(0, 20, elevator));
            all.add((long) x.turns(519, 3, elevator));
        }
        for (int what = 0; what < 5; what++) {
            all.add((long) x.sum(-1, what, 519));
            all.add((long) x.sum(0, what, 0));
        }
    }

    private static void tellMoney(PrairiePool x, List<Long> all) {
        for (int what = 0; what < 3; what++) {
            all.add(x.paid(0, 5, what, 519));
            all.add(x.below(0, what, 519));
        }
        for (int farm = 0; farm < 3; farm++) {
            all.add(x.last(farm, 0, 519));
            all.add(x.first(farm, 0, 519));
            all.add(x.owed(farm, 0, 519));
            all.add(x.alone(farm, 0, 519));
            for (int year = 0; year < 3; year++) {
                all.add(x.cost(farm, year));
            }
        }
        all.add((long) x.more(0, 519));
        for (int i = 0; i < 5; i++) {
            all.add((long) x.breach(i));
        }
        for (int district = -1; district < 3; district++) {
            all.add((long) x.result(district, 0));
            all.add((long) x.result(district, 519));
        }
        all.add((long) x.hangs(0));
        all.add((long) x.hangs(519));
    }

    private static void tellNext(PrairiePool x, List<Long> all) {
        // The tape, by where its first FAULT is: it may be behind what was fed ahead.
        int length = x.feed(0x3f3f3f3f, 0, 0, 0, 0);
        all.add((long) length);
        all.add((long) x.acts(length, 0));
        all.add((long) x.fault(0));
        all.add((long) x.fault(1));
        all.add((long) x.status());
        all.add((long) x.acts(0, 519));
        all.add((long) x.outside(0, 0, 1, 0));
        all.add((long) x.farm(0, 1, 0));
        all.add((long) x.elevator(0, 1));
        for (int[] weeks : new int[][] {{0, 0}, {7, 9}}) {
            all.add((long) x.load(0, 0, 1, 0, weeks[0], weeks[1]));
            all.add(x.grading(0, 0, 0, weeks[1]) ? 1L : 0L);
            all.add((long) x.grade(0, weeks[1]));
        }
    }

    private static void sameAs(PrairiePool twin, PrairiePool x, String what) {
        CHECK.due(what + " changes nothing", tellAll(x).equals(tellAll(twin)), true);
    }

    // ---- edges, and two wrong at once

    private static void edges() {
        for (Call c : calls()) {
            for (int i = 0; i < c.args.length; i++) {
                for (int v : new int[] {c.args[i].least, c.args[i].most}) {
                    int[] given = good(c);
                    given[i] = v;
                    PrairiePool x = ready();
                    make(x, c, given);
                    CHECK.due("STATUS of " + told(c, given), x.status(), 0);
                }
                for (int v : wrong(c.args[i])) {
                    int[] given = good(c);
                    given[i] = v;
                    refused(c, given, statusOf(c.args[i], v));
                    twoWrong(c, given, i);
                }
            }
        }
    }

    private static void twoWrong(Call c, int[] given, int i) {
        for (int j = i + 1; j < c.args.length; j++) {
            for (int v : wrong(c.args[j])) {
                int[] both = given.clone();
                both[j] = v;
                refused(c, both, first(c, statusOf(c.args[i], given[i]), statusOf(c.args[j], v)));
            }
        }
    }

    private static void refused(Call c, int[] given, int status) {
        PrairiePool x = ready();
        CHECK.refused(x, told(c, given), make(x, c, given), status);
    }

    // ---- what is refused changes nothing

    private static void changeNothing() {
        for (Call c : calls()) {
            for (int i = 0; i < c.args.length; i++) {
                for (int v : wrong(c.args[i])) {
                    int[] given = good(c);
                    given[i] = v;
                    changesNothing(RefusalsTest::ready, c, given, statusOf(c.args[i], v));
                }
            }
        }
        // What an argument alone does not tell.
        changesNothing(RefusalsTest::ready, named("sign"), new int[] {0, 5, 4}, 5);
        changesNothing(RefusalsTest::ready, named("load"), new int[] {0, 0, 1, 0, 5, 4}, 5);
        changesNothing(RefusalsTest::ready, named("car"), new int[] {0, 0, 5, 0, 1, 5, 4}, 5);
        changesNothing(RefusalsTest::ready, named("sale"), new int[] {0, 5, 0, 1, 1, 5, 4}, 5);
        changesNothing(RefusalsTest::ready, named("spoil"), new int[] {0, 5, 0, 1, 5, 4}, 5);
        changesNothing(RefusalsTest::ready, named("sum"), new int[] {0, 4, 0}, 5);
        changesNothing(RefusalsTest::ready, named("grading"), new int[] {3, 0, 0, 0}, 2);
        changesNothing(RefusalsTest::ready, named("pour"), new int[] {0, 19, 1, 0, 2}, 4);
        changesNothing(RefusalsTest::ready, named("pour"), new int[] {0, 0, 1, 19, 2}, 4);
        changesNothing(RefusalsTest::unlike, named("pour"), new int[] {0, 0, 1, 0, 1}, 11);
        changesNothing(RefusalsTest::unlike, named("warm"), new int[] {0, 1, 2}, 5);
        changesNothing(RefusalsTest::unlike, named("warm"), new int[] {0, 1, 3}, 4);
        changesNothing(RefusalsTest::unlike, named("send"), new int[] {3, 2, 1, 1, 1}, 9);
        changesNothing(RefusalsTest::unlike, named("send"), new int[] {1, 1, 0, 1, 3}, 5);
        changesNothing(RefusalsTest::unlike, named("send"), new int[] {1, 1, 3, 3, 3}, 4);
        changesNothing(RefusalsTest::unlike, named("read"), new int[] {2, 0}, 4);
        changesNothing(RefusalsTest::unlike, named("write"), new int[] {2, 0, 5}, 4);
    }

    private static PrairiePool unlike() {
        PrairiePool x = ready();
        x.tray(0, 0, 3);
        x.write(0, 0, -7);
        x.tray(1, 1, 2);
        x.write(1, 0, 5);
        x.write(1, 1, 6);
        x.tray(2, 2, 0);
        x.tray(3, 3, 2);
        return x;
    }

    private static void changesNothing(Supplier<PrairiePool> made, Call c, int[] given, int status) {
        PrairiePool x = made.get();
        CHECK.refused(x, told(c, given), make(x, c, given), status);
        sameAs(made.get(), x, told(c, given));
    }

    // ---- one too many, and what is gone

    private static void tooMany() {
        full("farm", 20 - 3, order(2, 5, 7));
        full("elevator", 8 - 2, order(2, 5, 7));
        full("outside", 60 - 4, order(2, 5, 7));
        full("grading", 100 - 1, order(2, 5, 7, 12));
        for (String name : new String[] {"load", "car", "sale", "spoil"}) {
            full(name, 120 - 6, order(2, 5, 7, 12));
        }
        // TEXTS: each takes the tape, and so it is fed anew.
        Supplier<PrairiePool> four = () -> {
            PrairiePool x = ready();
            for (int i = 0; i < 3; i++) {
                x.acts(0, 1);
            }
            Check.feed(x, "a:1;b:2;c:3;d:4;e:5;");
            return x;
        };
        changesNothing(four, named("acts"), new int[] {20, 0}, 7);
        changesNothing(four, named("acts"), new int[] {3, 0}, 7);
        changesNothing(four, named("acts"), new int[] {21, 0}, 5);
        changesNothing(four, named("acts"), new int[] {20, 520}, 5);
    }

    private static void full(String name, int left, int[] order) {
        Call c = named(name);
        Supplier<PrairiePool> made = () -> {
            PrairiePool x = ready();
            int[] given = good(c);
            // In WEEK 7 and KNOWN by 9, so that what is gone could be told.
            for (int i = 0; i < given.length && order.length == 4; i++) {
                given[i] = c.args[i] == WEEK ? 7 : c.args[i] == KNOWN ? 9 : given[i];
            }
            for (int i = 0; i < left; i++) {
                make(x, c, given);
                CHECK.due(told(c, given) + ", not too many yet", x.status(), 0);
            }
            return x;
        };
        changesNothing(made, c, good(c), 7);
        for (int i = 0; i < c.args.length; i++) {
            for (int v : new int[] {c.args[i].least - 1, c.args[i].most + 1}) {
                int[] given = good(c);
                given[i] = v;
                PrairiePool x = made.get();
                CHECK.refused(x, told(c, given) + ", one too many", make(x, c, given), statusOf(c.args[i], v));
            }
        }
    }

    private static PrairiePool later() {
        PrairiePool x = ready();
        x.load(0, 0, 1, 0, 7, 9);
        return x;
    }

    private static void gone() {
        for (String name : new String[] {"load", "car", "sale", "spoil", "grading"}) {
            Call c = named(name);
            int weekAt = c.args.length - 2;
            int knownAt = c.args.length - 1;
            boolean hasWeek = !name.equals("grading");
            int[][] weeks = {{6, 9}, {7, 8}, {6, 8}, {0, 0}, {7, 9}, {8, 9}, {7, 10}, {519, 519}};
            for (int[] w : weeks) {
                boolean isGone = w[1] < 9 || hasWeek && w[0] < 7;
                int[] given = good(c);
                given[knownAt] = w[1];
                if (hasWeek) {
                    given[weekAt] = w[0];
                }
                if (isGone) {
                    changesNothing(RefusalsTest::later, c, given, 12);
                } else {
                    PrairiePool x = later();
                    make(x, c, given);
                    CHECK.due("STATUS of " + told(c, given), x.status(), 0);
                }
                goneAndWrong(c, given);
            }
        }
    }

    // What is asked first is told, though the WEEK is gone as well.
    private static void goneAndWrong(Call c, int[] given) {
        for (int i = 0; i < c.args.length; i++) {
            for (int v : wrong(c.args[i])) {
                int[] both = given.clone();
                both[i] = v;
                PrairiePool x = later();
                CHECK.refused(x, told(c, both), make(x, c, both), statusOf(c.args[i], v));
            }
        }
    }

    // ---- FAULTS and STATUS

    private static void faults() {
        PrairiePool x = ready();
        PrairiePool twin = ready();
        CHECK.due(x, "acts with a FAULT", x.acts(3, 0), -1, 10);
        CHECK.due("FAULT", x.fault(0), 2);
        CHECK.due("its place", x.fault(1), 3);
        CHECK.due("the tape is empty", x.feed(0x20202020, 0x20202020, 0x20202020, 0x20202020, 0x20202020), 20);
        // The twin is told alike: a TEXT with a FAULT at the same place, and the same tape.
        twin.acts(3, 0);
        twin.feed(0x20202020, 0x20202020, 0x20202020, 0x20202020, 0x20202020);
        sameAs(twin, x, "a TEXT with a FAULT, done twice,");
        // All else is as in an object that never had it: four TEXTS may come still.
        PrairiePool y = ready();
        y.acts(3, 0);
        List<Long> told = new ArrayList<>();
        tellStores(y, told);
        tellMoney(y, told);
        List<Long> want = new ArrayList<>();
        PrairiePool z = ready();
        tellStores(z, want);
        tellMoney(z, want);
        CHECK.due("a TEXT with a FAULT changes nothing else", told.equals(want), true);
        for (int i = 0; i < 3; i++) {
            CHECK.due(y, "a TEXT more", y.acts(0, 0), 0, 0);
        }
        CHECK.refused(y, "one too many", y.acts(0, 0), 7);
    }

    private static void latest() {
        for (Call c : calls()) {
            PrairiePool x = ready();
            x.read(-1, 0);
            CHECK.due("STATUS of a refused call", x.status(), 1);
            make(x, c, good(c));
            CHECK.due("STATUS 0 of " + c.name, x.status(), 0);
            CHECK.due("asked twice it is the same", x.status(), 0);
            x.breach(-1);
            CHECK.due("STATUS of the next", x.status(), 8);
        }
    }

    private static void haveNone() {
        PrairiePool x = ready();
        x.read(4, 0);
        for (int i = 0; i < 30; i++) {
            x.feed(i, i, i, i, i);
            CHECK.due("STATUS behind feed", x.status(), 1);
        }
        for (int what : new int[] {0, 1, 2, -1, MIN, MAX}) {
            x.fault(what);
            CHECK.due("STATUS behind fault", x.status(), 1);
        }
        x.status();
        CHECK.due("STATUS behind status", x.status(), 1);
        PrairiePool y = new PrairiePool();
        y.fault(0);
        y.feed(0, 0, 0, 0, 0);
        CHECK.due("STATUS of a new object", y.status(), 0);
    }

    private static void newObject() {
        PrairiePool x = new PrairiePool();
        CHECK.due("STATUS", x.status(), 0);
        // What was done to another object is not done to this one.
        sameAs(new PrairiePool(), x, "another object");
        PrairiePool y = new PrairiePool();
        CHECK.refused(y, "no FARM", y.vote(0, 1), 2);
        CHECK.refused(y, "no ELEVATOR", y.turns(0, 1, 0), 2);
        CHECK.refused(y, "no EVENT", y.grade(0, 0), 2);
        CHECK.refused(y, "no OUTSIDE", y.breach(0), 8);
        CHECK.refused(y, "no warm()", y.turned(0), 8);
        CHECK.refused(y, "an empty tape", y.acts(1, 0), 5);
        for (int tray = 0; tray < 4; tray++) {
            CHECK.refused(y, "a MISSING TRAY", y.read(tray, 0), 3);
        }
        CHECK.due(y, "no SHORT", y.sum(-1, 4, 519), 0, 0);
        // STEP 10 and LAG 2: GRADE 5 has 50 less, of the price two WEEKS ahead.
        CHECK.due(y, "the first FARM", y.farm(0, 1, 0), 0, 0);
        CHECK.due(y, "the first ELEVATOR", y.elevator(0, 1), 0, 0);
        CHECK.due(y, "the first EVENT", y.load(0, 0, 1, 0, 10, 10), 0, 0);
        y.price(8, 51);
        CHECK.due(y, "STEP and LAG", y.alone(0, 0, 10), 1, 0);
    }
}
