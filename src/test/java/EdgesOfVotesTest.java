/** The votes of part 5 and promises 36 to 38: a test of its own for each sentence that names an edge. */
public final class EdgesOfVotesTest {
    private static final Check CHECK = new Check("EdgesOfVotesTest");
    private static final int MIN = Integer.MIN_VALUE;
    private static final int MAX = Integer.MAX_VALUE;

    public static void main(String[] args) {
        CHECK.says("a FARM votes for (1), against (0), or not (NONE, at first)", EdgesOfVotesTest::votes);
        CHECK.says("A DISTRICT is for, if votes for are more than those against (by the DEF)",
                EdgesOfVotesTest::district);
        CHECK.says("the whole is for, if more DISTRICTS are for than against (like ones count for neither)",
                EdgesOfVotesTest::whole);
        CHECK.says("By a WEEK's TEXT, whether a DISTRICT (NONE: the whole) is for: 1 or 0 (2; 5)",
                EdgesOfVotesTest::resultAsked);
        CHECK.says("the fewest FARMS of those who did not vote whose votes, all the other way, would turn the whole",
                EdgesOfVotesTest::fewest);
        CHECK.says("from for to not for: against; else to for", EdgesOfVotesTest::bothWays);
        CHECK.says("of several the least set (1 for FARM 0, 2 for 1 ..)", EdgesOfVotesTest::leastSet);
        CHECK.says("NONE if none do", EdgesOfVotesTest::noneDo);
        CHECK.says("What HANGS, by a WEEK's TEXT: the set; STATUS 0 also with NONE (5)", EdgesOfVotesTest::hangsAsked);
        CHECK.end();
    }

    // A FARM for each pair: its DISTRICT, and its ACRES, which are what it votes with.
    private static PrairiePool pool(int... districtAndAcres) {
        PrairiePool x = new PrairiePool();
        for (int i = 0; i < districtAndAcres.length; i += 2) {
            x.farm(districtAndAcres[i], districtAndAcres[i + 1], 0);
        }
        Check.acts(x, "votes:acres;", 0);
        return x;
    }

    private static void vote(PrairiePool x, int... hows) {
        for (int farm = 0; farm < hows.length; farm++) {
            CHECK.due(x, "vote(" + farm + ", " + hows[farm] + ")", x.vote(farm, hows[farm]), true, 0);
        }
    }

    private static void votes() {
        PrairiePool x = pool(0, 1);
        CHECK.due(x, "not at first", x.result(0, 0), 0, 0);
        CHECK.due(x, "it may vote still", x.hangs(0), 1, 0);
        vote(x, 1);
        CHECK.due(x, "for", x.result(0, 0), 1, 0);
        CHECK.due(x, "it has voted", x.hangs(0), -1, 0);
        vote(x, 0);
        CHECK.due(x, "against", x.result(0, 0), 0, 0);
        CHECK.due(x, "it has voted", x.hangs(0), -1, 0);
        vote(x, -1);
        CHECK.due(x, "not", x.result(0, 0), 0, 0);
        CHECK.due(x, "it may vote again", x.hangs(0), 1, 0);
        vote(x, 1);
        for (int how : new int[] {-2, 2, MIN, MAX}) {
            CHECK.refused(x, "vote " + how, x.vote(0, how), 5);
        }
        for (int farm : new int[] {-1, 1, MIN, MAX}) {
            CHECK.refused(x, "vote of " + farm, x.vote(farm, 2), 2);
        }
        CHECK.due(x, "for still", x.result(0, 0), 1, 0);
        // All twenty.
        PrairiePool y = new PrairiePool();
        for (int farm = 0; farm < 20; farm++) {
            y.farm(0, 1, 0);
            CHECK.due(y, "vote of " + farm, y.vote(farm, farm % 2), true, 0);
        }
        CHECK.due(y, "ten for, ten against", y.result(0, 0), 0, 0);
        y.vote(18, -1);
        CHECK.due(y, "ten for, nine against", y.result(0, 0), 1, 0);
        CHECK.refused(y, "vote of 20", y.vote(20, 1), 2);
    }

    private static void district() {
        for (int acres = 4; acres <= 6; acres++) {
            PrairiePool x = pool(2, acres, 2, 3, 2, 2);
            vote(x, 1, 0, 0);
            CHECK.due(x, acres + " for, 5 against", x.result(2, 0), acres > 5 ? 1 : 0, 0);
            vote(x, 0, 1, 1);
            CHECK.due(x, "5 for, " + acres + " against", x.result(2, 0), acres < 5 ? 1 : 0, 0);
            vote(x, -1, -1, 1);
            CHECK.due(x, "who does not vote does not count", x.result(2, 0), 1, 0);
            CHECK.due(x, "nor in another DISTRICT", x.result(1, 0) + x.result(3, 0), 0, 0);
        }
        // As many votes as there can be: twenty FARMS with 1,000 each.
        PrairiePool x = new PrairiePool();
        Check.acts(x, "votes:1000;", 0);
        for (int farm = 0; farm < 20; farm++) {
            x.farm(5, 1, 0);
            x.vote(farm, 1);
        }
        CHECK.due(x, "20,000 for", x.result(5, 0), 1, 0);
    }

    private static void whole() {
        PrairiePool x = new PrairiePool();
        CHECK.due(x, "where nobody is", x.result(-1, 0), 0, 0);
        // One FARM in each DISTRICT: so many for, so many against, the others not.
        for (int yes = 0; yes <= 6; yes++) {
            for (int no = 0; yes + no <= 6; no++) {
                PrairiePool y = pool(0, 1, 1, 1, 2, 1, 3, 1, 4, 1, 5, 1);
                for (int farm = 0; farm < 6; farm++) {
                    y.vote(farm, farm < yes ? 1 : farm < yes + no ? 0 : -1);
                }
                CHECK.due(y, yes + " for, " + no + " against", y.result(-1, 0), yes > no ? 1 : 0, 0);
            }
        }
        // DISTRICTS count, not votes.
        PrairiePool y = pool(0, 1000, 1, 1, 2, 1);
        vote(y, 0, 1, 1);
        CHECK.due(y, "2 DISTRICTS of 1 against 1 of 1,000", y.result(-1, 0), 1, 0);
        // Like ones count for neither.
        PrairiePool z = pool(0, 5, 0, 5, 1, 1, 2, 1);
        vote(z, 1, 0, 1, -1);
        CHECK.due(z, "one for, one like", z.result(-1, 0), 1, 0);
        vote(z, 1, 0, 1, 0);
        CHECK.due(z, "one for, one like, one against", z.result(-1, 0), 0, 0);
        vote(z, 1, 0, -1, -1);
        CHECK.due(z, "one like", z.result(-1, 0), 0, 0);
    }

    private static void resultAsked() {
        PrairiePool x = pool(5, 1);
        vote(x, 1);
        for (int district = 0; district < 6; district++) {
            CHECK.due(x, "DISTRICT " + district, x.result(district, 0), district == 5 ? 1 : 0, 0);
        }
        CHECK.due(x, "the whole", x.result(-1, 0), 1, 0);
        CHECK.due(x, "in the last WEEK", x.result(-1, 519), 1, 0);
        for (int district : new int[] {-2, 6, MIN, MAX}) {
            CHECK.refused(x, "DISTRICT " + district, x.result(district, 520), 2);
        }
        for (int week : new int[] {-1, 520, MIN, MAX}) {
            CHECK.refused(x, "in " + week, x.result(-1, week), 5);
        }
        Check.acts(x, "votes:0;", 100);
        CHECK.due(x, "by the TEXT of WEEK 99", x.result(-1, 99), 1, 0);
        CHECK.due(x, "by the TEXT of WEEK 100", x.result(-1, 100), 0, 0);
    }

    private static void fewest() {
        // 6 against: 7 alone, rather than 3 and 4.
        PrairiePool x = pool(0, 6, 0, 3, 0, 4, 0, 7);
        vote(x, 0);
        CHECK.due(x, "7 alone", x.hangs(0), 8, 0);
        vote(x, 0, -1, -1, 0);
        CHECK.due(x, "13 against: none do", x.hangs(0), -1, 0);
        vote(x, 0, -1, -1, 1);
        CHECK.due(x, "7 for, 6 against: one that makes it like, the lesser", x.hangs(0), 2, 0);
        // Votes as many as those against turn nothing: one more does.
        PrairiePool y = pool(0, 5, 0, 5, 0, 1);
        vote(y, 0);
        CHECK.due(y, "5 and 1", y.hangs(0), 2 | 4, 0);
        // To win two DISTRICTS by one each, or one by two.
        PrairiePool z = pool(0, 2, 0, 2, 0, 1, 1, 1, 2, 1, 2, 9);
        vote(z, 0, -1, -1, -1, -1, -1);
        CHECK.due(z, "DISTRICT 0 won by two, as good as 1 and 2 won by one each", z.hangs(0), 2 | 4, 0);
        vote(z, 0, 0, -1, -1, -1, -1);
        CHECK.due(z, "DISTRICT 0 can't be won", z.hangs(0), 8 | 16, 0);
        vote(z, -1, -1, -1, -1, -1, -1);
        CHECK.due(z, "any one", z.hangs(0), 1, 0);
        // All twenty are needed.
        PrairiePool w = new PrairiePool();
        for (int i = 0; i < 20; i++) {
            w.farm(0, i == 19 ? 5000 : 1, 0);
        }
        Check.acts(w, "votes:least(acres,18);", 0);
        w.vote(19, 0);
        CHECK.due(w, "19 of one vote each against 18", w.hangs(0), (1 << 19) - 1, 0);
        Check.acts(w, "votes:least(acres,19);", 0);
        CHECK.due(w, "19 of one vote each against 19", w.hangs(0), -1, 0);
        // The last of twenty alone.
        PrairiePool v = new PrairiePool();
        for (int i = 0; i < 20; i++) {
            v.farm(i == 19 ? 5 : 0, 1, 0);
            v.vote(i, i == 19 ? -1 : i % 2);
        }
        v.vote(0, -1);
        v.vote(0, 1);
        v.vote(18, -1);
        v.vote(18, 0);
        v.vote(1, 0);
        CHECK.due(v, "9 for, 10 against, and FARM 19 in another", v.hangs(0), -1, 0);
        v.vote(1, 1);
        CHECK.due(v, "10 for, 9 against", v.result(0, 0), 1, 0);
        CHECK.due(v, "one for, FARM 19 may be one against", v.hangs(0), 1 << 19, 0);
    }

    private static void bothWays() {
        // From for: like ones are enough. To for: one more is needed.
        PrairiePool x = pool(0, 3, 0, 3, 0, 1);
        vote(x, 1);
        CHECK.due(x, "for by 3: 3 make it like", x.hangs(0), 2, 0);
        vote(x, 0);
        CHECK.due(x, "against by 3: 3 and 1 make it for", x.hangs(0), 2 | 4, 0);
        vote(x, 1, 0, -1);
        CHECK.due(x, "like: 1 makes it for", x.hangs(0), 4, 0);
        // DISTRICTS like: the whole is not for, and one vote turns it.
        PrairiePool y = pool(0, 1, 1, 1, 2, 1);
        vote(y, 1, 0);
        CHECK.due(y, "one for, one against", y.hangs(0), 4, 0);
        vote(y, 1, 1);
        CHECK.due(y, "two for: one against is not enough", y.hangs(0), -1, 0);
        vote(y, 0, 0);
        CHECK.due(y, "two against: one for is not enough", y.hangs(0), -1, 0);
        vote(y, 1, -1);
        CHECK.due(y, "one for: one against is enough", y.hangs(0), 2, 0);
        vote(y, 0, -1);
        CHECK.due(y, "one against: two for are needed", y.hangs(0), 2 | 4, 0);
    }

    private static void leastSet() {
        // Of two as good the lesser, whatever their votes.
        PrairiePool x = pool(0, 2, 0, 9, 0, 3, 0, 3);
        vote(x, 0);
        CHECK.due(x, "2 against: FARM 1", x.hangs(0), 2, 0);
        vote(x, 0, 0);
        CHECK.due(x, "11 against", x.hangs(0), -1, 0);
        vote(x, 0, 1);
        CHECK.due(x, "for by 7", x.hangs(0), -1, 0);
        // 4 against: 1 and 4, 2 and 3, 2 and 4, 3 and 4 do.
        PrairiePool y = pool(0, 4, 0, 1, 0, 2, 0, 3, 0, 4);
        vote(y, 0);
        CHECK.due(y, "FARMS 2 and 3 are less than 1 and 4", y.hangs(0), 4 | 8, 0);
        // The greatest FARM of a set weighs most: FARMS 1 and 2 are less than 0 and 3.
        PrairiePool z = pool(0, 3, 0, 2, 0, 2, 0, 1, 0, 9);
        vote(z, -1, -1, -1, -1, 0);
        CHECK.due(z, "9 against: none of 8", z.hangs(0), -1, 0);
        PrairiePool w = pool(0, 3, 0, 2, 0, 2, 0, 1, 0, 3);
        vote(w, -1, -1, -1, -1, 0);
        CHECK.due(w, "3 against: 3 and 2", w.hangs(0), 1 | 2, 0);
        vote(w, 0, -1, -1, -1, -1);
        CHECK.due(w, "3 against: 2 and 2", w.hangs(0), 2 | 4, 0);
        // Over DISTRICTS.
        PrairiePool v = pool(0, 1, 1, 1, 2, 1, 3, 1, 4, 1, 5, 1);
        CHECK.due(v, "any: FARM 0", v.hangs(0), 1, 0);
        vote(v, 0);
        CHECK.due(v, "two of five: FARMS 1 and 2", v.hangs(0), 2 | 4, 0);
        vote(v, 0, 0);
        CHECK.due(v, "three of four", v.hangs(0), 4 | 8 | 16, 0);
        vote(v, 0, 0, 0);
        CHECK.due(v, "three of three are like", v.hangs(0), -1, 0);
    }

    private static void noneDo() {
        PrairiePool x = new PrairiePool();
        CHECK.due(x, "nobody is there", x.hangs(0), -1, 0);
        PrairiePool y = pool(0, 1, 0, 1);
        vote(y, 1, 1);
        CHECK.due(y, "all voted", y.hangs(0), -1, 0);
        PrairiePool z = pool(0, 3, 0, 1, 0, 1);
        vote(z, 1);
        CHECK.due(z, "too few votes to turn it", z.hangs(0), -1, 0);
        Check.acts(z, "votes:0;", 0);
        CHECK.due(z, "no votes at all", z.hangs(0), -1, 0);
    }

    private static void hangsAsked() {
        PrairiePool x = pool(0, 2, 0, 1);
        vote(x, 1);
        CHECK.due(x, "NONE", x.hangs(0), -1, 0);
        for (int week : new int[] {-1, 520, MIN, MAX}) {
            CHECK.refused(x, "in " + week, x.hangs(week), 5);
        }
        Check.acts(x, "votes:1;", 100);
        CHECK.due(x, "by the TEXT of WEEK 99", x.hangs(99), -1, 0);
        CHECK.due(x, "by the TEXT of WEEK 100", x.hangs(100), 2, 0);
        CHECK.due(x, "in the last WEEK", x.hangs(519), 2, 0);
        // Asking changes no vote.
        CHECK.due(x, "asked again", x.hangs(100), 2, 0);
        CHECK.due(x, "for still", x.result(-1, 100), 1, 0);
    }
}
