import java.util.ArrayList;
import java.util.Arrays;
import java.util.HashMap;
import java.util.List;
import java.util.Map;
import java.util.Set;
import java.util.TreeMap;

/**
 * The document once more, in the slowest and plainest way and with the whole Java library: what
 * PrairiePool answers is held against it. Nothing here is shared with the class.
 */
final class Model {
    int status;

    record Farm(int district, int acres, int debt) { }

    record Elevator(int district, int room) { }

    record Event(char kind, int farm, int elevator, int port, int grade, int year, int bushels,
            int docked, int pence, int week, int known) { }

    record Grading(int load, int grader, int grade, int known) { }

    record Outside(int farm, int week, int bushels, int pence) { }

    final long[][] trays = new long[4][];
    final int[] sorts = new int[4];
    final List<Farm> farms = new ArrayList<>();
    final List<Elevator> elevators = new ArrayList<>();
    final List<Event> events = new ArrayList<>();
    final List<Grading> gradings = new ArrayList<>();
    final List<Outside> outsides = new ArrayList<>();
    final List<ModelText> texts = new ArrayList<>();
    final List<Integer> froms = new ArrayList<>();
    final Map<Integer, int[]> signed = new HashMap<>();
    final Map<List<Integer>, Boolean> letOff = new HashMap<>();
    final Map<Integer, Integer> votes = new HashMap<>();
    final Map<Integer, Integer> prices = new HashMap<>();
    int step = 10;
    int lag = 2;
    StringBuilder tape = new StringBuilder();
    int fault = -1;
    int faultPlace = -1;
    List<Integer> turning;
    int knownLatest;

    private long set(int s, long v) {
        status = s;
        return s == 0 ? v : -1;
    }

    private boolean farmIs(int f) {
        return f >= 0 && f < farms.size();
    }

    private boolean elevatorIs(int e) {
        return e >= 0 && e < elevators.size();
    }

    private static boolean in(long v, long a, long b) {
        return a <= v && v <= b;
    }

    private static boolean week(int w) {
        return in(w, 0, 519);
    }

    private static boolean year(int y) {
        return in(y, 0, 9);
    }

    private static boolean six(int g) {
        return in(g, 0, 5);
    }

    private static boolean pick(int p) {
        return in(p, 0, 1);
    }

    // ---- TRAYS

    boolean tray(int t, int sort, int many) {
        if (!in(t, 0, 3) || !in(sort, 0, 3)) {
            status = 1;
        } else if (many > 40) {
            status = 5;
        } else if (many < 0) {
            status = 6;
        } else {
            status = 0;
            trays[t] = new long[many];
            sorts[t] = sort;
        }
        return status == 0;
    }

    private int placeStatus(int t, int place) {
        return !in(t, 0, 3) ? 1 : trays[t] == null ? 3 : !in(place, 0, trays[t].length - 1) ? 4 : 0;
    }

    boolean write(int t, int place, long v) {
        status = placeStatus(t, place);
        if (status == 0) {
            int off = 64 - (8 << sorts[t]);
            trays[t][place] = v << off >> off;
        }
        return status == 0;
    }

    long read(int t, int place) {
        status = placeStatus(t, place);
        return status == 0 ? trays[t][place] : -1;
    }

    boolean pour(int t, int i, int to, int j, int many) {
        if (!in(t, 0, 3) || !in(to, 0, 3)) {
            status = 1;
        } else if (trays[t] == null || trays[to] == null) {
            status = 3;
        } else if (sorts[t] != sorts[to]) {
            status = 11;
        } else if (many < 0) {
            status = 6;
        } else if (i < 0 || j < 0 || (long) i + many > trays[t].length
                || (long) j + many > trays[to].length) {
            status = 4;
        } else {
            status = 0;
            long[] copy = trays[t].clone();
            for (int k = 0; k < many; k++) {
                trays[to][j + k] = copy[i + k];
            }
        }
        return status == 0;
    }

    // ---- FARMS, ELEVATORS, EVENTS

    int farm(int district, int acres, int debt) {
        status = !six(district) ? 2 : !in(acres, 1, 5000) || !in(debt, 0, 100000) ? 5
                : farms.size() == 20 ? 7 : 0;
        if (status != 0) {
            return -1;
        }
        farms.add(new Farm(district, acres, debt));
        return farms.size() - 1;
    }

    int elevator(int district, int room) {
        status = !six(district) ? 2 : !in(room, 1, 1000000) ? 5 : elevators.size() == 8 ? 7 : 0;
        if (status != 0) {
            return -1;
        }
        elevators.add(new Elevator(district, room));
        return elevators.size() - 1;
    }

    private int enter(boolean such, boolean can, Event e) {
        if (!such) {
            status = 2;
        } else if (!can || !week(e.week) || !week(e.known) || e.known < e.week) {
            status = 5;
        } else if (events.size() == 120) {
            status = 7;
        } else if (!events.isEmpty() && events.get(events.size() - 1).week > e.week
                || e.known < knownLatest) {
            status = 12;
        } else {
            status = 0;
            events.add(e);
            knownLatest = e.known;
            return events.size() - 1;
        }
        return -1;
    }

    int load(int farm, int elevator, int bushels, int docked, int week, int known) {
        return enter(farmIs(farm) && elevatorIs(elevator), in(bushels, 1, 10000) && in(docked, 0, 1000),
                new Event('l', farm, elevator, -1, -1, week / 52, bushels, docked, -1, week, known));
    }

    int car(int elevator, int port, int grade, int year, int bushels, int week, int known) {
        return enter(elevatorIs(elevator) && pick(port) && six(grade),
                year(year) && in(bushels, 1, 100000),
                new Event('c', -1, elevator, port, grade, year, bushels, -1, -1, week, known));
    }

    int sale(int port, int grade, int year, int bushels, int pence, int week, int known) {
        return enter(pick(port) && six(grade),
                year(year) && in(bushels, 1, 100000) && in(pence, 0, 1000),
                new Event('s', -1, -1, port, grade, year, bushels, -1, pence, week, known));
    }

    int spoil(int elevator, int grade, int year, int bushels, int week, int known) {
        return enter(elevatorIs(elevator) && six(grade), year(year) && in(bushels, 1, 100000),
                new Event('x', -1, elevator, -1, grade, year, bushels, -1, -1, week, known));
    }

    private boolean loadIs(int e) {
        return e >= 0 && e < events.size() && events.get(e).kind == 'l';
    }

    boolean grading(int load, int grader, int grade, int known) {
        status = !loadIs(load) || !six(grader) || !six(grade) ? 2 : !week(known) ? 5
                : gradings.size() == 100 ? 7 : known < knownLatest ? 12 : 0;
        if (status == 0) {
            gradings.add(new Grading(load, grader, grade, known));
            knownLatest = known;
        }
        return status == 0;
    }

    private long asked(String name, int inWeek, Map<String, Long> told, long without, long low, long high) {
        ModelText text = null;
        int best = -1;
        for (int i = 0; i < texts.size(); i++) {
            if (froms.get(i) <= inWeek && froms.get(i) >= best) {
                best = froms.get(i);
                text = texts.get(i);
            }
        }
        Long v = text == null ? null : text.valueOf(name, told);
        long got = v == null ? without : v;
        return got < low ? low : got > high ? high : got;
    }

    private static Map<String, Long> told(Object... pairs) {
        Map<String, Long> m = new HashMap<>();
        for (int i = 0; i < pairs.length; i += 2) {
            m.put((String) pairs[i], ((Number) pairs[i + 1]).longValue());
        }
        return m;
    }

    private int net(Event e) {
        return e.bushels - (int) ((long) e.bushels * e.docked / 1000);
    }

    private int gradeOf(int load, int known) {
        Event e = events.get(load);
        long best = Long.MIN_VALUE;
        int found = 5;
        for (Grading g : gradings) {
            if (g.load == load && g.known <= known) {
                long rank = asked("rank", e.week, told("grade", g.grade, "grader", g.grader, "week", e.week,
                        "year", e.week / 52, "bushels", net(e), "district", farms.get(e.farm).district),
                        0, -1000000, 1000000);
                if (rank >= best) {
                    best = rank;
                    found = g.grade;
                }
            }
        }
        return found;
    }

    int grade(int load, int known) {
        status = !loadIs(load) ? 2 : !week(known) ? 5 : events.get(load).known > known ? 8 : 0;
        return status == 0 ? gradeOf(load, known) : -1;
    }

    /** What all the EVENTS known by a WEEK lead to. */
    final class Played {
        final Map<List<Integer>, Map<Integer, Long>> bins = new HashMap<>();
        final Map<List<Integer>, Map<Integer, Long>> ports = new HashMap<>();
        final long[][] sums = new long[5][20];
        long missing;
        final Map<Integer, Long> moved = new HashMap<>();

        Played(int known) {
            for (int i = 0; i < events.size(); i++) {
                Event e = events.get(i);
                if (e.known <= known) {
                    one(i, e, known);
                }
            }
        }

        private void one(int i, Event e, int known) {
            List<Integer> bin = List.of(e.elevator, e.kind == 'l' ? gradeOf(i, known) : e.grade,
                    e.kind == 'l' ? e.week / 52 : e.year);
            List<Integer> port = List.of(e.port, e.grade, e.year);
            switch (e.kind) {
                case 'l' -> {
                    long comes = Math.min(net(e), elevators.get(e.elevator).room - within(e.elevator));
                    sums[0][e.farm] += e.bushels - net(e);
                    sums[1][e.farm] += net(e) - comes;
                    bins.computeIfAbsent(bin, k -> new TreeMap<>()).merge(e.farm, comes, Long::sum);
                    moved.put(i, comes);
                }
                case 'c' -> take(i, bins.get(bin), e.bushels).forEach((f, v) ->
                        ports.computeIfAbsent(port, k -> new TreeMap<>()).merge(f, v, Long::sum));
                case 's' -> take(i, ports.get(port), e.bushels).forEach((f, v) -> sums[2][f] += v);
                default -> take(i, bins.get(bin), e.bushels).forEach((f, v) -> sums[3][f] += v);
            }
        }

        long within(int elevator) {
            long all = 0;
            for (var b : bins.entrySet()) {
                if (b.getKey().get(0) == elevator) {
                    all += total(b.getValue());
                }
            }
            return all;
        }

        private Map<Integer, Long> take(int i, Map<Integer, Long> from, long want) {
            Map<Integer, Long> has = from == null ? new TreeMap<>() : from;
            long got = Math.min(want, total(has));
            missing += want - got;
            moved.put(i, got);
            Map<Integer, Long> parts = parted(got, has);
            parts.forEach((f, v) -> has.merge(f, -v, Long::sum));
            return parts;
        }
    }

    static long total(Map<Integer, Long> m) {
        return m.values().stream().mapToLong(v -> v).sum();
    }

    static Map<Integer, Long> parted(long amount, Map<Integer, Long> by) {
        Map<Integer, Long> out = new TreeMap<>();
        long all = total(by);
        if (all == 0) {
            return out;
        }
        long left = amount;
        for (var e : by.entrySet()) {
            long v = Math.multiplyExact(amount, e.getValue()) / all;
            out.put(e.getKey(), v);
            left -= v;
        }
        List<Integer> order = new ArrayList<>(by.keySet());
        order.sort((a, b) -> {
            int c = Long.compare(amount * by.get(b) % all, amount * by.get(a) % all);
            return c != 0 ? c : Integer.compare(a, b);
        });
        for (int i = 0; i < left; i++) {
            out.merge(order.get(i), 1L, Long::sum);
        }
        return out;
    }

    private long at(Map<Integer, Long> m, int farm) {
        return m == null ? 0 : farm == -1 ? total(m) : m.getOrDefault(farm, 0L);
    }

    int bin(int elevator, int grade, int year, int farm, int known) {
        status = !elevatorIs(elevator) || !six(grade) || farm != -1 && !farmIs(farm) ? 2
                : !year(year) || !week(known) ? 5 : 0;
        return status != 0 ? -1 : (int) at(new Played(known).bins.get(List.of(elevator, grade, year)), farm);
    }

    int port(int port, int grade, int year, int farm, int known) {
        status = !pick(port) || !six(grade) || farm != -1 && !farmIs(farm) ? 2
                : !year(year) || !week(known) ? 5 : 0;
        return status != 0 ? -1 : (int) at(new Played(known).ports.get(List.of(port, grade, year)), farm);
    }

    int sum(int farm, int what, int known) {
        status = farm != -1 && !farmIs(farm) ? 2
                : !in(what, 0, 4) || !week(known) || what == 4 && farm != -1 ? 5 : 0;
        if (status != 0) {
            return -1;
        }
        Played p = new Played(known);
        return (int) (what == 4 ? p.missing : farm == -1 ? Arrays.stream(p.sums[what]).sum() : p.sums[what][farm]);
    }

    // ---- ACTS

    int feed(int... ints) {
        if (tape.length() + 20 > 500) {
            return -1;
        }
        for (int v : ints) {
            tape.append((char) (v >>> 24)).append((char) (v >> 16 & 255)).append((char) (v >> 8 & 255))
                    .append((char) (v & 255));
        }
        return tape.length();
    }

    int acts(int n, int from) {
        status = !in(n, 0, tape.length()) || !week(from) ? 5 : texts.size() == 4 ? 7 : 0;
        if (status != 0) {
            return -1;
        }
        String text = tape.substring(0, n);
        tape = new StringBuilder();
        try {
            ModelText t = new ModelText(text);
            texts.add(t);
            froms.add(from);
            fault = 0;
            faultPlace = -1;
            return t.size();
        } catch (ModelText.Fault f) {
            fault = f.kind;
            faultPlace = f.place;
            status = 10;
            return -1;
        }
    }

    int fault(int what) {
        return what == 0 ? fault : what == 1 ? faultPlace : -1;
    }

    // ---- PAID

    final class Paid {
        final long[] came = new long[6];
        final long[] kept = new long[6];
        final List<Map<Integer, Long>> brought = new ArrayList<>();
        final long[] first = new long[20];
        final long[] last = new long[20];
        long below;
        long stood;
        Map<Integer, Long> owed = new TreeMap<>();

        Paid(int year, int known) {
            Played p = new Played(known);
            int week = year * 52 + 51;
            for (int g = 0; g < 6; g++) {
                Map<Integer, Long> by = new TreeMap<>();
                for (int i = 0; i < events.size(); i++) {
                    Event e = events.get(i);
                    if (e.known > known) {
                        continue;
                    }
                    if (e.kind == 'l' && e.week / 52 == year && gradeOf(i, known) == g) {
                        by.merge(e.farm, p.moved.get(i), Long::sum);
                    }
                    if (e.kind == 's' && e.year == year && e.grade == g) {
                        came[g] += p.moved.get(i) * e.pence;
                    }
                }
                brought.add(by);
                Map<String, Long> vars = told("grade", g, "year", year);
                kept[g] = came[g] * asked("held", week, vars, 0, 0, 1000) / 1000;
                long pay = asked("first", week, vars, 0, 0, 1000);
                by.forEach((f, v) -> first[f] += pay * v);
                by.forEach((f, v) -> last[f] -= pay * v);
                parted(came[g] - kept[g], by).forEach((f, v) -> last[f] += v);
            }
            long all = Arrays.stream(last).sum();
            if (all < 0) {
                below = -all;
                stood = below * asked("stand", week, told("year", year), 0, 0, 1000) / 1000;
                Map<Integer, Long> by = new TreeMap<>();
                for (int f = 0; f < 20; f++) {
                    if (last[f] < 0) {
                        by.put(f, -last[f]);
                    }
                }
                owed = parted(below - stood, by);
            }
        }
    }

    long paid(int year, int grade, int what, int known) {
        status = !six(grade) ? 2 : !year(year) || !in(what, 0, 2) || !week(known) ? 5 : 0;
        if (status != 0) {
            return -1;
        }
        Paid p = new Paid(year, known);
        return what == 0 ? p.came[grade] : what == 1 ? p.kept[grade] : total(p.brought.get(grade));
    }

    private boolean farmYear(int farm, int year, int known) {
        status = !farmIs(farm) ? 2 : !year(year) || !week(known) ? 5 : 0;
        return status == 0;
    }

    long last(int farm, int year, int known) {
        return farmYear(farm, year, known) ? new Paid(year, known).last[farm] : -1;
    }

    long first(int farm, int year, int known) {
        return farmYear(farm, year, known) ? new Paid(year, known).first[farm] : -1;
    }

    long below(int year, int what, int known) {
        status = !year(year) || !in(what, 0, 1) || !week(known) ? 5 : 0;
        if (status != 0) {
            return -1;
        }
        Paid p = new Paid(year, known);
        return what == 0 ? p.below : p.stood;
    }

    long owed(int farm, int year, int known) {
        return farmYear(farm, year, known) ? new Paid(year, known).owed.getOrDefault(farm, 0L) : -1;
    }

    int turns(int week, int n, int elevator) {
        status = !elevatorIs(elevator) ? 2 : !week(week) || !in(n, 1, 20) ? 5 : 0;
        if (status != 0) {
            return -1;
        }
        Played p = new Played(week);
        int[] cars = new int[8];
        for (int k = 0; k < n; k++) {
            int next = -1;
            long best = 0;
            for (int e = 0; e < elevators.size(); e++) {
                long waits = Math.max(0, p.within(e) - 1000L * cars[e]);
                long turn = asked("turn", week, told("cars", cars[e], "waits", waits, "district",
                        elevators.get(e).district, "week", week, "year", week / 52), 0, -1000000, 1000000);
                if (waits > 0 && (next < 0 || turn > best)) {
                    next = e;
                    best = turn;
                }
            }
            if (next >= 0) {
                cars[next]++;
            }
        }
        return cars[elevator];
    }

    // ---- CONTRACTS, ALONE

    boolean sign(int farm, int from, int to) {
        status = !farmIs(farm) ? 2 : !year(from) || !year(to) || from > to ? 5 : 0;
        if (status == 0) {
            signed.put(farm, new int[] {from, to});
        }
        return status == 0;
    }

    boolean let(int farm, int year, boolean is) {
        status = !farmIs(farm) ? 2 : !year(year) ? 5 : 0;
        if (status == 0) {
            letOff.put(List.of(farm, year), is);
        }
        return status == 0;
    }

    int outside(int farm, int week, int bushels, int pence) {
        status = !farmIs(farm) ? 2 : !week(week) || !in(bushels, 1, 10000) || !in(pence, 0, 1000) ? 5
                : outsides.size() == 60 ? 7 : 0;
        if (status != 0) {
            return -1;
        }
        outsides.add(new Outside(farm, week, bushels, pence));
        return outsides.size() - 1;
    }

    private long breachOf(Outside o) {
        int y = o.week / 52;
        int[] s = signed.get(o.farm);
        if (s == null || y < s[0] || y > s[1] || letOff.getOrDefault(List.of(o.farm, y), false)) {
            return 0;
        }
        Farm f = farms.get(o.farm);
        return asked("breach", o.week, told("acres", f.acres, "debt", f.debt, "district", f.district,
                "bushels", o.bushels, "price", o.pence, "week", o.week, "year", y), 0, 0, 1000);
    }

    int breach(int outside) {
        status = in(outside, 0, outsides.size() - 1) ? 0 : 8;
        return status != 0 ? -1 : breachOf(outsides.get(outside)) > 0 ? 1 : 0;
    }

    long cost(int farm, int year) {
        status = !farmIs(farm) ? 2 : !year(year) ? 5 : 0;
        return status != 0 ? -1 : outsides.stream().filter(o -> o.farm == farm && o.week / 52 == year)
                .mapToLong(o -> breachOf(o) * o.bushels).sum();
    }

    boolean price(int week, int pence) {
        status = !week(week) || !in(pence, 0, 1000) ? 5 : 0;
        if (status == 0) {
            prices.put(week, pence);
        }
        return status == 0;
    }

    boolean rules(int newStep, int newLag) {
        status = !in(newStep, 0, 100) || !in(newLag, 0, 20) ? 5 : 0;
        if (status == 0) {
            step = newStep;
            lag = newLag;
        }
        return status == 0;
    }

    private long aloneOf(int farm, int year, int known) {
        Played p = new Played(known);
        long all = 0;
        for (int i = 0; i < events.size(); i++) {
            Event e = events.get(i);
            if (e.kind == 'l' && e.known <= known && e.farm == farm && e.week / 52 == year) {
                long price = prices.getOrDefault(Math.max(0, e.week - lag), 0) - gradeOf(i, known) * step;
                all += p.moved.get(i) * Math.max(0, price);
            }
        }
        return all;
    }

    long alone(int farm, int year, int known) {
        return farmYear(farm, year, known) ? aloneOf(farm, year, known) : -1;
    }

    int more(int year, int known) {
        status = !year(year) || !week(known) ? 5 : 0;
        if (status != 0) {
            return -1;
        }
        Paid p = new Paid(year, known);
        int n = 0;
        for (int f = 0; f < farms.size(); f++) {
            long brought = 0;
            for (int g = 0; g < 6; g++) {
                brought += p.brought.get(g).getOrDefault(f, 0L);
            }
            if (brought > 0 && p.first[f] + p.last[f] > aloneOf(f, year, known)) {
                n++;
            }
        }
        return n;
    }

    // ---- votes

    boolean vote(int farm, int how) {
        status = !farmIs(farm) ? 2 : !in(how, -1, 1) ? 5 : 0;
        if (status == 0) {
            votes.put(farm, how);
        }
        return status == 0;
    }

    private long[] weights(int week) {
        long[] w = new long[20];
        for (int f = 0; f < farms.size(); f++) {
            Farm x = farms.get(f);
            w[f] = asked("votes", week, told("acres", x.acres, "debt", x.debt, "district", x.district,
                    "week", week, "year", week / 52), 1, 0, 1000);
        }
        return w;
    }

    private int sideOf(int district, long[] w, int set, int how) {
        long yes = 0;
        long no = 0;
        for (int f = 0; f < farms.size(); f++) {
            if (farms.get(f).district == district) {
                int v = (set >> f & 1) == 1 ? how : votes.getOrDefault(f, -1);
                yes += v == 1 ? w[f] : 0;
                no += v == 0 ? w[f] : 0;
            }
        }
        return Long.compare(yes, no);
    }

    private boolean whole(long[] w, int set, int how) {
        int sides = 0;
        for (int d = 0; d < 6; d++) {
            sides += sideOf(d, w, set, how);
        }
        return sides > 0;
    }

    int result(int district, int week) {
        status = district != -1 && !six(district) ? 2 : !week(week) ? 5 : 0;
        if (status != 0) {
            return -1;
        }
        long[] w = weights(week);
        return (district == -1 ? whole(w, 0, 0) : sideOf(district, w, 0, 0) > 0) ? 1 : 0;
    }

    int hangs(int week) {
        status = !week(week) ? 5 : 0;
        if (status != 0) {
            return -1;
        }
        long[] w = weights(week);
        boolean is = whole(w, 0, 0);
        int best = -1;
        int free = 0;
        for (int f = 0; f < farms.size(); f++) {
            free |= votes.getOrDefault(f, -1) == -1 ? 1 << f : 0;
        }
        for (int set = 1; set < 1 << farms.size(); set++) {
            if ((set & ~free) == 0 && (best == -1 || Integer.bitCount(set) < Integer.bitCount(best))
                    && whole(w, set, is ? 0 : 1) != is) {
                best = set;
            }
        }
        return best;
    }

    // ---- bins that warm, orders

    int warm(int weeks, int bushels, int many) {
        if (!in(weeks, 0, 3) || !in(bushels, 0, 3)) {
            return (int) set(1, 0);
        }
        if (trays[weeks] == null || trays[bushels] == null) {
            return (int) set(3, 0);
        }
        if (!in(many, 1, 8)) {
            return (int) set(5, 0);
        }
        if (trays[weeks].length < many || trays[bushels].length < many) {
            return (int) set(4, 0);
        }
        for (int i = 0; i < many; i++) {
            if (!in(trays[weeks][i], 0, 20) || !in(trays[bushels][i], 1, 10000)) {
                return (int) set(5, 0);
            }
        }
        Map<List<Integer>, Long> memo = new HashMap<>();
        long most = saved(0, 0, weeks, bushels, many, memo);
        List<Integer> row = new ArrayList<>();
        int set = 0;
        long rest = most;
        for (int w = 0; w < 20; w++) {
            int chosen = -1;
            for (int b = 0; b < many && chosen == -1; b++) {
                if ((set >> b & 1) == 0 && w < trays[weeks][b] && trays[bushels][b]
                        + saved(w + 1, set | 1 << b, weeks, bushels, many, memo) == rest) {
                    chosen = b;
                }
            }
            row.add(chosen);
            if (chosen >= 0) {
                set |= 1 << chosen;
                rest -= trays[bushels][chosen];
            }
        }
        turning = row;
        return (int) set(0, most);
    }

    private long saved(int w, int set, int weeks, int bushels, int many, Map<List<Integer>, Long> memo) {
        if (w == 20) {
            return 0;
        }
        Long known = memo.get(List.of(w, set));
        if (known != null) {
            return known;
        }
        long most = saved(w + 1, set, weeks, bushels, many, memo);
        for (int b = 0; b < many; b++) {
            if ((set >> b & 1) == 0 && w < trays[weeks][b]) {
                most = Math.max(most, trays[bushels][b]
                        + saved(w + 1, set | 1 << b, weeks, bushels, many, memo));
            }
        }
        memo.put(List.of(w, set), most);
        return most;
    }

    int turned(int week) {
        status = turning == null || !in(week, 0, 19) ? 8 : 0;
        return status != 0 ? -1 : turning.get(week);
    }

    int send(int bins, int b, int orders, int o, int costs) {
        for (int t : new int[] {bins, orders, costs}) {
            if (!in(t, 0, 3)) {
                return (int) set(1, 0);
            }
        }
        if (Set.of(0, 1, 2, 3).stream().anyMatch(t -> (t == bins || t == orders || t == costs) && trays[t] == null)) {
            return (int) set(3, 0);
        }
        if (!in(b, 1, 5) || !in(o, 1, 4)) {
            return (int) set(5, 0);
        }
        if (trays[bins].length < b || trays[orders].length < o || trays[costs].length < b * o) {
            return (int) set(4, 0);
        }
        long[] have = Arrays.copyOf(trays[bins], b);
        long[] want = Arrays.copyOf(trays[orders], o);
        long[] cost = Arrays.copyOf(trays[costs], b * o);
        if (Arrays.stream(have).anyMatch(v -> !in(v, 0, 30)) || Arrays.stream(want).anyMatch(v -> !in(v, 0, 30))
                || Arrays.stream(cost).anyMatch(v -> !in(v, 0, 100))) {
            return (int) set(5, 0);
        }
        if (Arrays.stream(have).sum() < Arrays.stream(want).sum()) {
            return (int) set(9, 0);
        }
        return (int) set(0, ModelSending.least(have, want, cost));
    }
}
