import java.util.Random;

/**
 * Promises 18 to 20 and part 2: TEXTS by chance, each on a new object; FAULTS, DEFS and what they
 * answer held against Model. The answers are seen by what a BREACH costs.
 */
public final class TextModelTest {
    public static void main(String[] args) {
        Check check = new Check("TextModelTest");
        int texts = args.length > 0 ? Integer.parseInt(args[0]) : 30000;
        int[] faults = new int[7];
        for (int number = 0; number < texts; number++) {
            Random chance = new Random(number);
            RandomText made = new RandomText(chance);
            PrairiePool pool = new PrairiePool();
            Model model = new Model();
            String text = made.next();
            int n = text.length();
            for (int at = 0; at < n; at += 20) {
                int[] v = new int[5];
                for (int i = 0; i < 20; i++) {
                    v[i / 4] = v[i / 4] << 8 | (at + i < n ? text.charAt(at + i) : ' ');
                }
                check.due("feed", pool.feed(v[0], v[1], v[2], v[3], v[4]), model.feed(v));
            }
            check.due("acts of: " + text, pool.acts(n, 0), model.acts(n, 0));
            check.due("status() of: " + text, pool.status(), model.status);
            check.due("fault(0) of: " + text, pool.fault(0), model.fault(0));
            check.due("fault(1) of: " + text, pool.fault(1), model.fault(1));
            faults[pool.fault(0)]++;
            for (int i = 0; i < 4; i++) {
                int district = chance.nextInt(6);
                int acres = 1 + chance.nextInt(5000);
                int debt = chance.nextInt(100001);
                pool.farm(district, acres, debt);
                model.farm(district, acres, debt);
                pool.sign(i, 0, 9);
                model.sign(i, 0, 9);
                int week = chance.nextInt(520);
                int bushels = 1 + chance.nextInt(10000);
                int pence = chance.nextInt(1001);
                pool.outside(i, week, bushels, pence);
                model.outside(i, week, bushels, pence);
                check.due("cost of: " + text, pool.cost(i, week / 52), model.cost(i, week / 52));
            }
        }
        for (int kind = 0; kind < 7; kind++) {
            check.due("texts with FAULT " + kind + " were met", faults[kind] > 0, true);
        }
        check.end();
    }
}
