/** Promises 36 to 38: votes, and on whom they hang. */
public final class VotesTest {
    private static final Check CHECK = new Check("VotesTest");

    public static void main(String[] args) {
        voting();
        results();
        weights();
        hangsAsked();
        hangsToFor();
        hangsToNotFor();
        hangsByDistricts();
        hangsLeastSet();
        hangsFewest();
        hangsOfTwenty();
        CHECK.end();
    }

    // A FARM for each district told; its acres are what it votes with, if the acts say so.
    private static PrairiePool pool(int... districtAndAcres) {
        PrairiePool x = new PrairiePool();
        for (int i = 0; i < districtAndAcres.length; i += 2) {
            x.farm(districtAndAcres[i], districtAndAcres[i + 1], 0);
        }
        Check.acts(x, "votes: acres;", 0);
        return x;
    }

    private static void voting() {
        PrairiePool x = pool(0, 1);
        CHECK.refused(x, "vote of 1", x.vote(1, 2), 2);
        CHECK.refused(x, "vote of -1", x.vote(-1, 1), 2);
        CHECK.refused(x, "vote 2", x.vote(0, 2), 5);
        CHECK.refused(x, "vote -2", x.vote(0, -2), 5);
        CHECK.refused(x, "vote MIN", x.vote(0, Integer.MIN_VALUE), 5);
        CHECK.due("not voted", x.result(0, 0), 0);
        CHECK.due(x, "for", x.vote(0, 1), true, 0);
        CHECK.due("for", x.result(0, 0), 1);
        x.vote(0, 2);
        CHECK.due("refused", x.result(0, 0), 1);
        CHECK.due(x, "against", x.vote(0, 0), true, 0);
        CHECK.due("against", x.result(0, 0), 0);
        CHECK.due(x, "not", x.vote(0, -1), true, 0);
        CHECK.due("it hangs on it", x.hangs(0), 1);
    }

    private static void results() {
        PrairiePool x = pool(0, 1, 0, 1, 1, 1, 2, 1, 5, 1);
        CHECK.refused(x, "result of 6", x.result(6, 520), 2);
        CHECK.refused(x, "result of -2", x.result(-2, 0), 2);
        CHECK.refused(x, "result in 520", x.result(0, 520), 5);
        CHECK.refused(x, "result in -1", x.result(-1, -1), 5);
        CHECK.due(x, "nobody voted", x.result(-1, 519), 0, 0);
        x.vote(0, 1);
        CHECK.due("one DISTRICT for", x.result(0, 0), 1);
        CHECK.due("the whole", x.result(-1, 0), 1);
        x.vote(1, 0);
        CHECK.due("like votes", x.result(0, 0), 0);
        CHECK.due("count for neither", x.result(-1, 0), 0);
        x.vote(2, 1);
        CHECK.due("one for, one like", x.result(-1, 0), 1);
        x.vote(3, 0);
        CHECK.due("one for, one against", x.result(-1, 0), 0);
        x.vote(4, 1);
        CHECK.due("two for, one against", x.result(-1, 0), 1);
        CHECK.due("the last DISTRICT", x.result(5, 0), 1);
        CHECK.due("one where nobody is", x.result(4, 0), 0);
    }

    private static void weights() {
        PrairiePool x = new PrairiePool();
        x.farm(0, 10, 7);
        x.farm(0, 20, 5);
        x.vote(0, 1);
        x.vote(1, 0);
        CHECK.due("one each without acts", x.result(0, 0), 0);
        Check.acts(x, "votes: debt;", 10);
        CHECK.due("by debt", x.result(0, 10), 1);
        CHECK.due("by the WEEK's TEXT", x.result(0, 9), 0);
        Check.acts(x, "votes: acres;", 20);
        CHECK.due("by acres", x.result(0, 20), 0);
        Check.acts(x, "votes: if week = 60 and year = 1 and district = 0 and grade + price + bushels = 0 "
                + "then debt else acres;", 20);
        CHECK.due("what it is told", x.result(0, 60), 1);
        CHECK.due("what it is told", x.result(0, 61), 0);
    }

    private static void hangsAsked() {
        PrairiePool x = pool(0, 1);
        CHECK.refused(x, "hangs(520)", x.hangs(520), 5);
        CHECK.refused(x, "hangs(-1)", x.hangs(-1), 5);
        CHECK.due(x, "hangs(519)", x.hangs(519), 1, 0);
        x.vote(0, 1);
        CHECK.due(x, "who voted can't turn it", x.hangs(0), -1, 0);
        PrairiePool y = new PrairiePool();
        CHECK.due(y, "nobody is there", y.hangs(0), -1, 0);
    }

    private static void hangsToFor() {
        PrairiePool x = pool(0, 5, 0, 3, 0, 2, 0, 4);
        x.vote(0, 0);
        CHECK.due("5 against: 3 and 4 turn it, 2 and 4 do too", x.hangs(0), 2 | 8);
        x.vote(0, 1);
        x.vote(1, 0);
        x.vote(2, 0);
        CHECK.due("5 and 5: one is enough", x.hangs(0), 8);
        x.vote(3, 0);
        CHECK.due("all voted", x.hangs(0), -1);
        // Those with no votes turn nothing.
        PrairiePool y = pool(0, 1, 0, 1);
        Check.acts(y, "votes: 0;", 0);
        CHECK.due("no votes", y.hangs(0), -1);
    }

    private static void hangsToNotFor() {
        PrairiePool x = pool(0, 5, 0, 3, 0, 2, 0, 4);
        x.vote(0, 1);
        CHECK.due("for: like votes are enough, 3 and 2", x.hangs(0), 2 | 4);
        Check.acts(x, "votes: 1;", 0);
        CHECK.due("one against one", x.hangs(0), 2);
        // A DISTRICT the other way is as good.
        PrairiePool y = pool(0, 1000, 3, 1, 4, 1);
        y.vote(0, 1);
        CHECK.due("one for, one against: not for", y.hangs(0), 2);
    }

    private static void hangsByDistricts() {
        // Two DISTRICTS for by 3 and by 1; two more where nobody voted.
        PrairiePool x = pool(0, 3, 1, 1, 1, 2, 2, 1, 3, 1, 0, 4);
        x.vote(0, 1);
        x.vote(1, 1);
        CHECK.due("DISTRICT 1 turned by one: 1 to 1", x.hangs(0), 4);
        x.vote(2, 1);
        CHECK.due("or DISTRICT 0", x.hangs(0), 32);
        x.vote(5, 1);
        CHECK.due("else both others", x.hangs(0), 8 | 16);
        x.vote(4, 1);
        CHECK.due("three to one stays for", x.hangs(0), -1);
    }

    private static void hangsLeastSet() {
        PrairiePool x = pool(0, 1, 0, 1, 0, 1, 1, 1, 1, 1, 2, 1);
        CHECK.due("any one: the first", x.hangs(0), 1);
        x.vote(0, 1);
        CHECK.due("to like votes, or to one against: farm 1", x.hangs(0), 2);
        x.vote(0, 0);
        CHECK.due("two in DISTRICT 0, or one each in 1 and 2", x.hangs(0), 2 | 4);
        x.vote(1, 0);
        CHECK.due("one each in 1 and 2", x.hangs(0), 8 | 32);
        // 5 needs two of these in any case: the least are not the greatest.
        PrairiePool y = pool(0, 5, 0, 1, 0, 2, 0, 4, 0, 3);
        y.vote(0, 1);
        CHECK.due("1 and 4 rather than 4 and 3", y.hangs(0), 2 | 8);
    }

    private static void hangsFewest() {
        // One great one behind many small ones.
        PrairiePool x = pool(0, 9, 0, 3, 0, 3, 0, 3, 0, 3, 0, 9);
        x.vote(0, 1);
        CHECK.due("the great one alone", x.hangs(0), 32);
        x.vote(5, -1);
        x.vote(1, 1);
        CHECK.due("12: the great one and one more", x.hangs(0), 4 | 32);
    }

    private static void hangsOfTwenty() {
        PrairiePool x = new PrairiePool();
        for (int i = 0; i < 20; i++) {
            x.farm(i % 6, 1, 0);
        }
        CHECK.due("any one", x.hangs(0), 1);
        for (int i = 0; i < 6; i++) {
            x.vote(i, 0);
        }
        // All six are against by one. A DISTRICT is made like by one, and won by two: one won and
        // five like take seven, as do two won, three like and one lost.
        CHECK.due("the next seven", x.hangs(0), 0b1111111000000);
        PrairiePool y = new PrairiePool();
        for (int i = 0; i < 20; i++) {
            y.farm(0, 1 + i, 0);
        }
        Check.acts(y, "votes: acres;", 0);
        y.vote(19, 0);
        CHECK.due("20 against: 11 and 10", y.hangs(0), 1 << 10 | 1 << 9);
        y.vote(18, 0);
        CHECK.due("39 against: 15, 13 and 12", y.hangs(0), 1 << 14 | 1 << 12 | 1 << 11);
    }
}
