import java.util.Random;

/**
 * Promises 9 to 38 at full size: 20 FARMS, 8 ELEVATORS, 120 EVENTS, 100 GRADINGS, 60 OUTSIDE and four TEXTS, with
 * numbers at and near their greatest; all that can be asked then is held against Model.
 */
public final class FullPoolTest {
    private static final Check CHECK = new Check("FullPoolTest");
    private static final String[] TEXTS = {
        "rank: grader * 1000 - grade; first: 1000; held: 0; stand: 0; votes: acres % 8; breach: price + 1;",
        "rank: bushels % 7; first: grade * 150; held: 1000; stand: 333; turn: waits % 1000 - cars; votes: debt % 3;",
        "rank: 0 - week; first: 999; held: grade * 77; stand: 999; turn: 0 - waits; breach: 1000;",
        "first: 1; held: 1; stand: 1; rank: 1 / (grader - 2); turn: district * cars; votes: 1000;"};

    private final Random chance;
    private final PrairiePool pool = new PrairiePool();
    private final Model model = new Model();

    private FullPoolTest(long seed) {
        chance = new Random(seed);
    }

    public static void main(String[] args) {
        int runs = args.length > 0 ? Integer.parseInt(args[0]) : 12;
        for (int run = 0; run < runs; run++) {
            FullPoolTest test = new FullPoolTest(run);
            test.fill(run % 3);
            test.askPlaces();
            test.askPayments();
            test.askVotes();
        }
        CHECK.end();
    }

    private int upTo(int most) {
        return most - chance.nextInt(1 + most / 10);
    }

    private void same(String call, long got, long want) {
        CHECK.due(call, got, want);
        CHECK.due("status() behind " + call, pool.status(), model.status);
    }

    private void same(String call, boolean got, boolean want) {
        same(call, got ? 1 : 0, want ? 1 : 0);
    }

    private void fill(int setting) {
        for (int i = 0; i < 20; i++) {
            int district = chance.nextInt(6);
            int acres = upTo(5000);
            int debt = upTo(100000);
            same("farm", pool.farm(district, acres, debt), model.farm(district, acres, debt));
        }
        for (int i = 0; i < 8; i++) {
            int room = setting == 0 ? 1000000 : 1 + chance.nextInt(60000);
            same("elevator", pool.elevator(i % 6, room), model.elevator(i % 6, room));
        }
        for (int i = 0; i < 120; i++) {
            event(i, setting);
            if (i == 60) {
                acts();
            }
        }
        for (int i = 0; i < 100; i++) {
            int load = chance.nextInt(120);
            int grader = chance.nextInt(6);
            int grade = chance.nextInt(6);
            same("grading", pool.grading(load, grader, grade, 518), model.grading(load, grader, grade, 518));
        }
        same("a 121st", pool.load(0, 0, 1, 0, 519, 519), model.load(0, 0, 1, 0, 519, 519));
    }

    private void acts() {
        for (int i = 0; i < TEXTS.length; i++) {
            String text = TEXTS[i];
            for (int at = 0; at < text.length(); at += 20) {
                int[] v = new int[5];
                for (int k = 0; k < 20; k++) {
                    v[k / 4] = v[k / 4] << 8 | (at + k < text.length() ? text.charAt(at + k) : ' ');
                }
                CHECK.due("feed", pool.feed(v[0], v[1], v[2], v[3], v[4]), model.feed(v));
            }
            int from = i * 20;
            same(text, pool.acts(text.length(), from), model.acts(text.length(), from));
        }
    }

    // All in two YEARS and few GRADES, so that BINS are shared by many.
    private void event(int i, int setting) {
        int week = i * 103 / 119;
        int elevator = setting == 2 ? chance.nextInt(8) : chance.nextInt(2);
        int farm = chance.nextInt(20);
        int bushels = upTo(10000);
        int year = chance.nextInt(4) == 0 ? week / 52 : 0;
        int many = chance.nextInt(5) == 0 ? 100000 : 1 + chance.nextInt(100000);
        int grade = chance.nextInt(3) == 0 ? chance.nextInt(6) : 5;
        int pence = upTo(1000);
        int docked = chance.nextInt(3) == 0 ? 0 : chance.nextInt(1001);
        switch (setting == 0 && i < 115 ? 0 : chance.nextInt(6)) {
            case 3 -> same("car", pool.car(elevator, i % 2, grade, year, many, week, week),
                    model.car(elevator, i % 2, grade, year, many, week, week));
            case 4 -> same("sale", pool.sale(i % 2, grade, year, many, pence, week, week),
                    model.sale(i % 2, grade, year, many, pence, week, week));
            case 5 -> same("spoil", pool.spoil(elevator, grade, year, many / 9 + 1, week, week),
                    model.spoil(elevator, grade, year, many / 9 + 1, week, week));
            default -> same("load", pool.load(farm, elevator, bushels, docked, week, week),
                    model.load(farm, elevator, bushels, docked, week, week));
        }
    }

    private void askPlaces() {
        for (int known : new int[] {51, 103, 519}) {
            for (int what = 0; what < 5; what++) {
                same("sum", pool.sum(-1, what, known), model.sum(-1, what, known));
            }
            for (int grade = 0; grade < 6; grade++) {
                for (int farm = -1; farm < 20; farm += 3) {
                    int elevator = chance.nextInt(2);
                    int what = chance.nextInt(4);
                    same("bin", pool.bin(elevator, grade, 0, farm, known), model.bin(elevator, grade, 0, farm, known));
                    same("port", pool.port(grade % 2, grade, 0, farm, known),
                            model.port(grade % 2, grade, 0, farm, known));
                    same("sum", pool.sum(farm, what, known), model.sum(farm, what, known));
                }
            }
            for (int elevator = 0; elevator < 8; elevator++) {
                same("turns", pool.turns(known, 20, elevator), model.turns(known, 20, elevator));
            }
        }
        for (int load = 0; load < 120; load++) {
            same("grade", pool.grade(load, 519), model.grade(load, 519));
        }
    }

    private void askPayments() {
        for (int week = 0; week < 104; week += 5) {
            int pence = upTo(1000);
            same("price", pool.price(week, pence), model.price(week, pence));
        }
        same("rules", pool.rules(100, 20), model.rules(100, 20));
        for (int year = 0; year < 2; year++) {
            for (int grade = 0; grade < 6; grade++) {
                for (int what = 0; what < 3; what++) {
                    same("paid", pool.paid(year, grade, what, 519), model.paid(year, grade, what, 519));
                }
            }
            for (int farm = 0; farm < 20; farm++) {
                same("first", pool.first(farm, year, 519), model.first(farm, year, 519));
                same("last", pool.last(farm, year, 519), model.last(farm, year, 519));
                same("owed", pool.owed(farm, year, 519), model.owed(farm, year, 519));
                same("alone", pool.alone(farm, year, 519), model.alone(farm, year, 519));
            }
            same("below", pool.below(year, 0, 519), model.below(year, 0, 519));
            same("stands", pool.below(year, 1, 519), model.below(year, 1, 519));
            same("more", pool.more(year, 519), model.more(year, 519));
        }
        askContracts();
    }

    private void askContracts() {
        for (int i = 0; i < 61; i++) {
            int farm = i % 5;
            int week = chance.nextInt(104);
            int bushels = upTo(10000);
            int pence = upTo(1000);
            same("sign", pool.sign(farm, 0, 1), model.sign(farm, 0, 1));
            same("outside", pool.outside(farm, week, bushels, pence), model.outside(farm, week, bushels, pence));
        }
        for (int farm = 0; farm < 6; farm++) {
            same("cost", pool.cost(farm, 0), model.cost(farm, 0));
            same("cost", pool.cost(farm, 1), model.cost(farm, 1));
        }
    }

    private void askVotes() {
        for (int farm = 0; farm < 20; farm++) {
            int how = chance.nextInt(5) == 0 ? chance.nextInt(2) : -1;
            same("vote", pool.vote(farm, how), model.vote(farm, how));
        }
        for (int week = 10; week < 90; week += 20) {
            same("result", pool.result(-1, week), model.result(-1, week));
            same("hangs", pool.hangs(week), model.hangs(week));
        }
    }
}
