import java.util.Random;

/**
 * Promises 1 to 41: runs of calls by chance, each answer and each STATUS held against Model. The
 * runs are always the same ones; a first argument asks for more of them, a second for others.
 */
public final class ModelTest {
    private static final Check CHECK = new Check("ModelTest");

    private final Random chance;
    private final RandomText randomText;
    private final PrairiePool pool = new PrairiePool();
    private final Model model = new Model();
    private int week;
    private int known;
    // A run is of few places, so that what it does meets.
    private final int span;
    private final int mostFarms;
    private final StringBuilder said = new StringBuilder();

    private ModelTest(long seed) {
        chance = new Random(seed);
        randomText = new RandomText(chance);
        span = 1 + chance.nextInt(3);
        mostFarms = chance.nextInt(8) == 0 ? 11 : 5;
    }

    public static void main(String[] args) {
        int runs = args.length > 0 ? Integer.parseInt(args[0]) : 1500;
        int start = args.length > 1 ? Integer.parseInt(args[1]) : 0;
        for (int run = start; run < start + runs; run++) {
            new ModelTest(run).run(run);
            new ModelTest(run).tell(run);
        }
        CHECK.end();
    }

    // A story: wheat comes, is graded, carried and sold; then all that can be asked is asked.
    private void tell(int number) {
        for (int i = 0; i < 3 + span; i++) {
            call(number, 6);
        }
        for (int i = 0; i < span; i++) {
            call(number, 7);
        }
        for (int i = 0; i < 60; i++) {
            int[] kinds = {8, 8, 8, 8, 9, 9, 10, 10, 11, 12, 12, 28, 31, 31, 35};
            call(number, kinds[chance.nextInt(kinds.length)]);
            if (i % 20 == 5) {
                act(number, randomText.soundText(), 0);
            }
            if (i % 15 == 14) {
                for (int kind : new int[] {26, 26, 27, 32, 28, 29, 30, 36, 37}) {
                    call(number, kind);
                }
            }
        }
        for (int i = 0; i < 8; i++) {
            for (int kind : new int[] {13, 14, 15, 16, 20, 20, 21, 22, 23, 24, 25, 33, 34}) {
                call(number, kind);
            }
        }
    }

    private void run(int number) {
        int setting = chance.nextInt(3);
        for (int i = 0; i < 3 + span; i++) {
            call(number, 6);
            call(number, 7);
        }
        for (int i = 0; i < 400; i++) {
            int kind = chance.nextInt(41);
            if (setting == 1 && chance.nextInt(2) == 0) {
                kind = 8 + chance.nextInt(5);
            } else if (setting == 2 && chance.nextInt(3) == 0) {
                kind = chance.nextInt(2) == 0 ? 18 : 8;
            }
            call(number, kind);
        }
    }

    private boolean odd() {
        return chance.nextInt(12) == 0;
    }

    // Mostly one of 0 to many - 1, sometimes one that is just out, or far out.
    private int among(int many) {
        if (!odd()) {
            return many <= 0 ? 0 : chance.nextInt(many);
        }
        int[] out = {-1, -2, many, many + 1, Integer.MAX_VALUE, Integer.MIN_VALUE};
        return out[chance.nextInt(out.length)];
    }

    private int number(int least, int most) {
        int[] edges = {least - 1, least, most, most + 1, Integer.MAX_VALUE, Integer.MIN_VALUE, 0};
        return odd() ? edges[chance.nextInt(edges.length)] : least + chance.nextInt(most - least + 1);
    }

    private int small(int least, int most) {
        return chance.nextInt(4) > 0 ? number(least, Math.min(most, least + 40)) : number(least, most);
    }

    private int farm() {
        return among(model.farms.size());
    }

    private int elevator() {
        return among(model.elevators.size());
    }

    private int grade() {
        return chance.nextBoolean() ? 5 : chance.nextInt(4) > 0 ? 4 : among(6);
    }

    private int year() {
        return odd() ? among(10) : chance.nextInt(4) > 0 ? week / 52 : Math.max(0, week / 52 - 1);
    }

    private int wrongWeek(int now) {
        int[] wrong = {-1, now - 1, now - 1, now - 2, now / 2, 520, Integer.MAX_VALUE, Integer.MIN_VALUE};
        return wrong[chance.nextInt(wrong.length)];
    }

    private int laterWeek() {
        if (chance.nextInt(20) == 0) {
            return wrongWeek(week);
        }
        week = Math.min(519, week + (chance.nextInt(30) == 0 ? chance.nextInt(70) : chance.nextInt(4) / 3));
        return week;
    }

    private int laterKnown(int from) {
        if (chance.nextInt(20) == 0) {
            return wrongWeek(known);
        }
        known = Math.min(519, Math.max(Math.max(known, from), week) + chance.nextInt(2));
        return known;
    }

    private int byWeek() {
        return chance.nextInt(6) > 0 ? known : number(0, 519);
    }

    private void due(int run, String call, long got, long want) {
        said.append("  ").append(call).append(" -> ").append(want).append('\n');
        if (got != want) {
            System.out.println(said);
            CHECK.due("run " + run + ": " + call, got, want);
            CHECK.end();
        }
        CHECK.due(call, got, want);
        CHECK.due("status() behind " + call, pool.status(), model.status);
    }

    private void due(int run, String call, boolean got, boolean want) {
        due(run, call, got ? 1 : 0, want ? 1 : 0);
    }

    private static String told(String name, long... v) {
        StringBuilder s = new StringBuilder(name).append('(');
        for (int i = 0; i < v.length; i++) {
            s.append(i == 0 ? "" : ", ").append(v[i]);
        }
        return s.append(')').toString();
    }

    private void call(int run, int kind) {
        if (kind < 6) {
            callTrays(run, kind);
        } else if (kind < 13) {
            callEvents(run, kind);
        } else if (kind < 17) {
            callStores(run, kind);
        } else if (kind < 20) {
            callActs(run, kind);
        } else if (kind < 26) {
            callPaid(run, kind);
        } else if (kind < 35) {
            callContracts(run, kind);
        } else {
            callVotes(run, kind);
        }
    }

    private void callTrays(int run, int kind) {
        int t = among(4);
        int u = among(4);
        int i = among(8);
        int j = among(8);
        int many = among(9);
        long v = chance.nextInt(3) == 0 ? chance.nextLong() : chance.nextInt(31);
        int sort = chance.nextInt(3) > 0 ? 2 : among(4);
        switch (kind) {
            case 0 -> due(run, "status()", pool.status(), model.status);
            case 1 -> {
                int length = chance.nextInt(3) > 0 ? 20 : number(0, 40);
                due(run, told("tray", t, sort, length), pool.tray(t, sort, length), model.tray(t, sort, length));
            }
            case 2 -> due(run, told("read", t, i), pool.read(t, i), model.read(t, i));
            case 3 -> due(run, told("pour", t, i, u, j, many), pool.pour(t, i, u, j, many),
                    model.pour(t, i, u, j, many));
            default -> due(run, told("write", t, i, v), pool.write(t, i, v), model.write(t, i, v));
        }
    }

    private void callEvents(int run, int kind) {
        int farm = farm();
        int elevator = elevator();
        int port = among(2);
        int grade = grade();
        int year = year();
        int bushels = small(1, 100000);
        switch (kind) {
            case 6 -> {
                if (model.farms.size() < mostFarms || chance.nextInt(3) == 0 && model.farms.size() > 11) {
                    int d = chance.nextInt(3) > 0 ? chance.nextInt(2 + span) : among(6);
                    int acres = small(1, 5000);
                    int debt = small(0, 100000);
                    due(run, told("farm", d, acres, debt), pool.farm(d, acres, debt), model.farm(d, acres, debt));
                }
            }
            case 7 -> {
                int d = among(6);
                int room = chance.nextBoolean() ? number(1, 300) : number(1, 1000000);
                due(run, told("elevator", d, room), pool.elevator(d, room), model.elevator(d, room));
            }
            case 8 -> {
                int docked = chance.nextBoolean() ? 0 : number(0, 1000);
                int many = chance.nextInt(4) > 0 ? number(1, 80) : number(1, 10000);
                int w = laterWeek();
                int k = laterKnown(w);
                due(run, told("load", farm, elevator, many, docked, w, k),
                        pool.load(farm, elevator, many, docked, w, k),
                        model.load(farm, elevator, many, docked, w, k));
            }
            case 9 -> {
                int w = laterWeek();
                int k = laterKnown(w);
                due(run, told("car", elevator, port, grade, year, bushels, w, k),
                        pool.car(elevator, port, grade, year, bushels, w, k),
                        model.car(elevator, port, grade, year, bushels, w, k));
            }
            case 10 -> {
                int pence = number(0, 1000);
                int w = laterWeek();
                int k = laterKnown(w);
                due(run, told("sale", port, grade, year, bushels, pence, w, k),
                        pool.sale(port, grade, year, bushels, pence, w, k),
                        model.sale(port, grade, year, bushels, pence, w, k));
            }
            case 11 -> {
                int w = laterWeek();
                int k = laterKnown(w);
                due(run, told("spoil", elevator, grade, year, bushels, w, k),
                        pool.spoil(elevator, grade, year, bushels, w, k),
                        model.spoil(elevator, grade, year, bushels, w, k));
            }
            default -> {
                int load = among(model.events.size());
                int grader = among(6);
                int k = laterKnown(0);
                due(run, told("grading", load, grader, grade, k), pool.grading(load, grader, grade, k),
                        model.grading(load, grader, grade, k));
            }
        }
    }

    private void callStores(int run, int kind) {
        int farm = chance.nextInt(3) == 0 ? -1 : farm();
        int grade = grade();
        int year = year();
        int by = byWeek();
        int elevator = elevator();
        int port = among(2);
        int what = among(5);
        int load = among(model.events.size());
        switch (kind) {
            case 13 -> due(run, told("grade", load, by), pool.grade(load, by), model.grade(load, by));
            case 14 -> due(run, told("bin", elevator, grade, year, farm, by),
                    pool.bin(elevator, grade, year, farm, by), model.bin(elevator, grade, year, farm, by));
            case 15 -> due(run, told("port", port, grade, year, farm, by),
                    pool.port(port, grade, year, farm, by), model.port(port, grade, year, farm, by));
            default -> due(run, told("sum", farm, what, by), pool.sum(farm, what, by), model.sum(farm, what, by));
        }
    }

    private void callActs(int run, int kind) {
        if (kind == 17) {
            int a = chance.nextInt();
            if (odd()) {
                due(run, told("feed", a, a, a, a, a), pool.feed(a, a, a, a, a), model.feed(a, a, a, a, a));
            }
            return;
        }
        if (kind == 19) {
            int what = among(2);
            due(run, told("fault", what), pool.fault(what), model.fault(what));
            return;
        }
        if (model.texts.size() < 4 || odd()) {
            int from = chance.nextInt(3) > 0 ? chance.nextInt(week + 20) : number(0, 519);
            act(run, odd() ? randomText.next() : randomText.soundText(), from);
        }
    }

    private void act(int run, String text, int from) {
        int fit = (text.length() + 19) / 20 * 20;
        byte[] bytes = new byte[fit];
        for (int i = 0; i < fit; i++) {
            bytes[i] = (byte) (i < text.length() ? text.charAt(i) : ' ');
        }
        int behind = model.tape.length();
        for (int at = 0; at < fit; at += 20) {
            int[] v = new int[5];
            for (int i = 0; i < 20; i++) {
                v[i / 4] = v[i / 4] << 8 | bytes[at + i] & 255;
            }
            due(run, told("feed", v[0], v[1], v[2], v[3], v[4]), pool.feed(v[0], v[1], v[2], v[3], v[4]),
                    model.feed(v));
        }
        int n = odd() ? among(text.length() + 21) : behind + text.length();
        due(run, told("acts", n, from) + " of: " + text, pool.acts(n, from), model.acts(n, from));
        due(run, "fault(0)", pool.fault(0), model.fault(0));
        due(run, "fault(1)", pool.fault(1), model.fault(1));
    }

    private void callPaid(int run, int kind) {
        int farm = farm();
        int grade = grade();
        int year = year();
        int by = byWeek();
        int what = among(kind == 20 ? 3 : 2);
        int n = number(1, 20);
        int elevator = elevator();
        switch (kind) {
            case 20 -> due(run, told("paid", year, grade, what, by), pool.paid(year, grade, what, by),
                    model.paid(year, grade, what, by));
            case 21 -> due(run, told("last", farm, year, by), pool.last(farm, year, by), model.last(farm, year, by));
            case 22 -> due(run, told("first", farm, year, by), pool.first(farm, year, by),
                    model.first(farm, year, by));
            case 23 -> due(run, told("below", year, what, by), pool.below(year, what, by),
                    model.below(year, what, by));
            case 24 -> due(run, told("owed", farm, year, by), pool.owed(farm, year, by), model.owed(farm, year, by));
            default -> due(run, told("turns", by, n, elevator), pool.turns(by, n, elevator),
                    model.turns(by, n, elevator));
        }
    }

    private void callContracts(int run, int kind) {
        int farm = farm();
        int year = year();
        int by = byWeek();
        int w = chance.nextInt(3) > 0 ? week : number(0, 519);
        int pence = number(0, 1000);
        switch (kind) {
            case 26 -> {
                int to = year == 9 ? 9 : year + among(3);
                due(run, told("sign", farm, year, to), pool.sign(farm, year, to), model.sign(farm, year, to));
            }
            case 27 -> {
                boolean is = chance.nextBoolean();
                due(run, told("let", farm, year, is ? 1 : 0), pool.let(farm, year, is), model.let(farm, year, is));
            }
            case 28 -> {
                int bushels = small(1, 10000);
                due(run, told("outside", farm, w, bushels, pence), pool.outside(farm, w, bushels, pence),
                        model.outside(farm, w, bushels, pence));
            }
            case 29 -> {
                int o = among(model.outsides.size());
                due(run, told("breach", o), pool.breach(o), model.breach(o));
            }
            case 30 -> due(run, told("cost", farm, year), pool.cost(farm, year), model.cost(farm, year));
            case 31 -> {
                int at = Math.max(0, w - chance.nextInt(4));
                due(run, told("price", at, pence), pool.price(at, pence), model.price(at, pence));
            }
            case 32 -> {
                int step = number(0, 100);
                int lag = number(0, 20);
                due(run, told("rules", step, lag), pool.rules(step, lag), model.rules(step, lag));
            }
            case 33 -> due(run, told("alone", farm, year, by), pool.alone(farm, year, by),
                    model.alone(farm, year, by));
            default -> due(run, told("more", year, by), pool.more(year, by), model.more(year, by));
        }
    }

    private void callVotes(int run, int kind) {
        int farm = farm();
        int how = chance.nextInt(3) == 0 ? -1 : among(2);
        int district = chance.nextInt(3) == 0 ? -1 : among(6);
        int w = byWeek();
        switch (kind) {
            case 35 -> due(run, told("vote", farm, how), pool.vote(farm, how), model.vote(farm, how));
            case 36 -> due(run, told("result", district, w), pool.result(district, w), model.result(district, w));
            case 37 -> due(run, told("hangs", w), pool.hangs(w), model.hangs(w));
            case 38 -> callWarm(run);
            case 39 -> {
                int at = among(20);
                due(run, told("turned", at), pool.turned(at), model.turned(at));
            }
            default -> callSend(run);
        }
    }

    private void fill(int run, int tray, int many, int least, int most) {
        int sort = chance.nextInt(3);
        due(run, told("tray", tray, sort, many), pool.tray(tray, sort, many), model.tray(tray, sort, many));
        int bound = chance.nextBoolean() ? most : Math.min(most, least + 4);
        for (int i = 0; i < many; i++) {
            int v = chance.nextInt(150) == 0 ? most + 1 : least + chance.nextInt(bound - least + 1);
            due(run, told("write", tray, i, v), pool.write(tray, i, v), model.write(tray, i, v));
        }
    }

    private void callWarm(int run) {
        int many = 1 + chance.nextInt(8);
        if (chance.nextInt(4) > 0) {
            fill(run, 0, many, 0, 20);
            fill(run, 1, many, 1, chance.nextBoolean() ? 5 : 10000);
        }
        int a = chance.nextInt(8) == 0 ? among(4) : 0;
        int b = chance.nextInt(8) == 0 ? among(4) : 1;
        int n = chance.nextInt(8) == 0 ? among(10) : many;
        due(run, told("warm", a, b, n), pool.warm(a, b, n), model.warm(a, b, n));
        for (int w = 0; w < 9; w++) {
            due(run, told("turned", w), pool.turned(w), model.turned(w));
        }
    }

    private void callSend(int run) {
        int b = 1 + chance.nextInt(5);
        int o = 1 + chance.nextInt(4);
        if (chance.nextInt(4) > 0) {
            fill(run, 0, b, 0, 30);
            fill(run, 1, o, 0, chance.nextBoolean() ? 10 : 30);
            fill(run, 2, b * o, 0, 100);
        }
        int bins = odd() ? among(4) : 0;
        int orders = odd() ? among(4) : 1;
        int costs = odd() ? among(4) : 2;
        int bb = odd() ? among(7) : b;
        int oo = odd() ? among(6) : o;
        due(run, told("send", bins, bb, orders, oo, costs), pool.send(bins, bb, orders, oo, costs),
                model.send(bins, bb, orders, oo, costs));
    }
}
