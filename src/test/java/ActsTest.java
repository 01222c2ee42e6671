/** Promises 18 to 20 and part 2: the tape, TEXTS, FAULTS, and what DEFS answer. */
public final class ActsTest {
    private static final Check CHECK = new Check("ActsTest");
    private static final String DEEP_7 = "(((((((";

    public static void main(String[] args) {
        feeding();
        acting();
        tapeStays();
        onlyTheFirst();
        faultTells();
        noToken();
        cantStand();
        names();
        eleventh();
        twice();
        depth();
        depthOfIfs();
        depthOfFews();
        unknownWords();
        firstFault();
        numbers();
        none();
        tests();
        defsOfDefs();
        inForce();
        bounds();
        notTold();
        longest();
        CHECK.end();
    }

    private static void feeding() {
        PrairiePool x = new PrairiePool();
        for (int i = 1; i <= 25; i++) {
            CHECK.due("feed", x.feed(0, 0, 0, 0, 0), 20 * i);
        }
        CHECK.due("a feed too many", x.feed(0, 0, 0, 0, 0), -1);
        CHECK.due("status()", x.status(), 0);
        CHECK.refused(x, "acts(501, 0)", x.acts(501, 0), 5);
        CHECK.due("still too many", x.feed(0, 0, 0, 0, 0), -1);
        // The highest byte of each int comes first.
        PrairiePool y = new PrairiePool();
        y.feed(0x613a6234, 0x3b202020, 0x20202020, 0x20202020, 0x20202020);
        CHECK.due(y, "a:b4;", y.acts(20, 0), -1, 10);
        CHECK.due("fault(0)", y.fault(0), 6);
        CHECK.due("fault(1)", y.fault(1), 2);
        // A byte above 127 is one, not another with a sign.
        PrairiePool z = new PrairiePool();
        z.feed(0x613a313b, 0xfa3a313b, 0, 0, 0);
        CHECK.due(z, "a byte above 127", z.acts(8, 0), -1, 10);
        CHECK.due("fault(0)", z.fault(0), 1);
        CHECK.due("fault(1)", z.fault(1), 4);
    }

    private static void acting() {
        PrairiePool x = new PrairiePool();
        CHECK.due(x, "an empty TEXT", x.acts(0, 0), 0, 0);
        CHECK.due("fault(0)", x.fault(0), 0);
        CHECK.due("fault(1)", x.fault(1), -1);
        CHECK.due("a TEXT of blanks", Check.acts(x, " \n \n  ", 5), 0);
        CHECK.refused(x, "acts(-1, 0)", x.acts(-1, 0), 5);
        CHECK.refused(x, "acts(0, -1)", x.acts(0, -1), 5);
        CHECK.refused(x, "acts(0, 520)", x.acts(0, 520), 5);
        CHECK.refused(x, "acts(MAX, 0)", x.acts(Integer.MAX_VALUE, 0), 5);
        CHECK.refused(x, "acts(MIN, MIN)", x.acts(Integer.MIN_VALUE, Integer.MIN_VALUE), 5);
        CHECK.due("two DEFS", Check.acts(x, "a:1;b:a;", 519), 2);
        CHECK.due("ten DEFS", Check.acts(x, "a:1;b:1;c:1;d:1;e:1;f:1;g:1;h:1;i:1;j:1;", 0), 10);
        CHECK.refused(x, "a 5th TEXT", x.acts(0, 0), 7);
        CHECK.refused(x, "a 5th TEXT that can't be", x.acts(1, 0), 5);
        Check.feed(x, "?");
        CHECK.refused(x, "a 5th TEXT with a FAULT", x.acts(1, 0), 7);
        CHECK.due("fault(0) of the latest with 0 or 10", x.fault(0), 0);
    }

    private static void tapeStays() {
        PrairiePool x = new PrairiePool();
        Check.feed(x, "a:1;");
        x.acts(21, 0);
        CHECK.due("status()", x.status(), 5);
        CHECK.due(x, "the tape is still there", x.acts(4, 0), 1, 0);
        CHECK.refused(x, "the tape is empty", x.acts(1, 0), 5);
        // All of the tape is gone, not only the first n.
        Check.feed(x, "a:1;b:1;c:1;d:1;e:1;f:1;g:1;");
        CHECK.due(x, "acts(4, 0)", x.acts(4, 0), 1, 0);
        CHECK.due("feed", x.feed(0, 0, 0, 0, 0), 20);
        CHECK.due(x, "acts of 0s", x.acts(20, 0), -1, 10);
        CHECK.due("feed behind a FAULT", x.feed(0, 0, 0, 0, 0), 20);
        x.acts(0, 0);
        x.acts(0, 0);
        CHECK.due("status()", x.status(), 0);
        CHECK.due("feed", x.feed(0, 0, 0, 0, 0), 20);
        CHECK.refused(x, "one too many", x.acts(0, 0), 7);
        CHECK.due("feed behind one too many", x.feed(0, 0, 0, 0, 0), 40);
    }

    // What is behind the first n bytes is no part of the TEXT, not even of its last TOKEN.
    private static void onlyTheFirst() {
        cut("a:1;bc:1;", 5, 2, 5);
        cut("a:1234567;", 8, 2, 8);
        cut("a:weeks;", 6, 2, 6);
        cut("a:week;", 5, 6, 2);
        cut("a:1;$", 4, 0, -1);
        cut("a:1;  $", 6, 0, -1);
    }

    private static void cut(String text, int n, int kind, int place) {
        PrairiePool x = new PrairiePool();
        Check.feed(x, text);
        x.acts(n, 0);
        CHECK.due("FAULT of " + n + " bytes of " + text, x.fault(0), kind);
        CHECK.due("its place", x.fault(1), place);
    }

    private static void faultTells() {
        PrairiePool x = new PrairiePool();
        CHECK.due("ahead of any", x.fault(0), -1);
        CHECK.due("ahead of any", x.fault(1), -1);
        x.acts(1, 0);
        CHECK.due("behind a 5", x.fault(0), -1);
        Check.acts(x, "a:;", 0);
        CHECK.due("fault(0)", x.fault(0), 2);
        CHECK.due("fault(1)", x.fault(1), 2);
        CHECK.due("fault(2)", x.fault(2), -1);
        CHECK.due("fault(-1)", x.fault(-1), -1);
        CHECK.due("fault(MIN)", x.fault(Integer.MIN_VALUE), -1);
        CHECK.due("status() is that of acts", x.status(), 10);
        x.acts(1, 0);
        CHECK.due("fault(0) behind a 5", x.fault(0), 2);
        Check.acts(x, "a:1;", 0);
        CHECK.due("fault(0) without one", x.fault(0), 0);
        CHECK.due("fault(1) without one", x.fault(1), -1);
    }

    private static void fault(String text, int kind, int place) {
        PrairiePool x = new PrairiePool();
        int got = Check.acts(x, text, 0);
        CHECK.due("STATUS of " + text, x.status(), kind == 0 ? 0 : 10);
        CHECK.due("FAULT of " + text, x.fault(0), kind);
        CHECK.due("place of the FAULT of " + text, x.fault(1), place);
        if (kind != 0) {
            CHECK.due("acts of " + text, got, -1);
        }
    }

    private static void sound(String text) {
        fault(text, 0, -1);
    }

    private static void noToken() {
        fault("$", 1, 0);
        fault("  \n?", 1, 3);
        fault("a:\t1;", 1, 2);
        fault("a: 1 & 2;", 1, 5);
        fault("A:1;", 1, 0);
        fault("aB:1;", 1, 1);
        fault("a:1;\r", 1, 4);
        fault("a: 1234567;", 1, 3);
        fault("a: 0000001;", 1, 3);
        fault("a: 12345678901234567890123;", 1, 3);
        fault("1234567", 1, 0);
        fault("a: 1 1234567;", 1, 5);
        fault("a:1!;", 1, 3);
        fault("a:1.5;", 1, 3);
        fault("a:_;", 1, 2);
        sound("a: 999999;");
        sound("a: 000000;");
    }

    private static void cantStand() {
        fault("a", 2, 1);
        fault("a  ", 2, 3);
        fault("a:", 2, 2);
        fault("a:1", 2, 3);
        fault("a:1;b", 2, 5);
        fault("a 1;", 2, 2);
        fault(";", 2, 0);
        fault("a:1;;", 2, 4);
        fault(":1;", 2, 0);
        fault("a:1;:1;", 2, 4);
        fault("1:a;", 2, 0);
        fault("a:-1;", 2, 2);
        fault("a:1+;", 2, 4);
        fault("a:1 2;", 2, 4);
        fault("a:12ab;", 2, 4);
        fault("a:week2;", 2, 6);
        fault("a:(1;", 2, 4);
        fault("a:1);", 2, 3);
        fault("a:();", 2, 3);
        fault("a:1<2;", 2, 3);
        fault("a:if 1 then 2 else 3;", 2, 7);
        fault("a:if 1<2 then 3;", 2, 15);
        fault("a:if 1<2 3 else 4;", 2, 9);
        fault("a:if 1<2<3 then 1 else 2;", 2, 8);
        fault("a:if 1<2 and 1<2 or 1<2 then 1 else 2;", 2, 17);
        fault("a:if 1<2 or 1<2 and 1<2 then 1 else 2;", 2, 16);
        fault("a:if not not 1<2 then 1 else 2;", 2, 9);
        fault("a:if (1<2) then 1 else 2;", 2, 7);
        fault("a:not 1;", 2, 2);
        fault("a:1 + if 1<2 then 1 else 2;", 2, 6);
        fault("a:if if 1<2 then 1 else 2 < 3 then 4 else 5;", 2, 5);
        fault("a:least 1,2;", 2, 8);
        fault("a:least(1);", 2, 9);
        fault("a:least(1,2,3);", 2, 11);
        fault("a:least(if 1<2 then 1 else 2,3);", 2, 8);
        fault("a:most(1,if 1<2 then 1 else 2);", 2, 9);
        fault("a:least;", 2, 7);
        fault("a:then;", 2, 2);
        fault("a:1+else;", 2, 4);
        fault("a:1,2;", 2, 3);
        fault("a:1:2;", 2, 3);
        fault("a:1=2;", 2, 3);
        sound("a:if not(1)<2and 3>2and not 1=2then(1)else if 1<2or 2<1then 2else 3;");
        sound("a:least((if 1<2 then 1 else 2),most(1,2)*3%4/5-6+7);");
        sound("a : 1 ;\nb\n:\na\n;");
    }

    private static void names() {
        String[] words = {"if", "then", "else", "and", "or", "not", "least", "most", "grade", "grader", "week",
            "year", "bushels", "acres", "debt", "district", "cars", "waits", "price", "abcdefghi",
            "districts", "thiswordisverymuchtoolongforanameofadef"};
        for (String word : words) {
            fault(word + ":1;", 2, 0);
            fault("a:1; " + word + ":1;", 2, 5);
        }
        sound("a:1;");
        sound("abcdefgh:1;");
        sound("z:1; grades:1; iff:1; i:1; weeks:1; pric:1;");
        sound("rank:1;first:2;held:3;stand:4;breach:5;turn:6;votes:7;");
        // Names of eight letters that begin alike are unlike; those that are cut alike too.
        sound("abcdefgh:1; abcdefgi:2; a:abcdefgh+abcdefgi;");
    }

    private static void eleventh() {
        String ten = "a:1;b:1;c:1;d:1;e:1;f:1;g:1;h:1;i:1;j:1;";
        sound(ten);
        sound(ten + "  ");
        fault(ten + "k:1;", 3, 40);
        fault(ten + " k", 3, 41);
        fault(ten + "a:1;", 3, 40);
        fault(ten + "year:1;", 2, 40);
        fault(ten + "if:1;", 2, 40);
        fault(ten + "1", 2, 40);
        fault(ten + "abcdefghi", 2, 40);
        fault(ten + "$", 1, 40);
        fault(ten + "k:$", 3, 40);
    }

    private static void twice() {
        fault("a:1;a:1;", 4, 4);
        fault("a:1;b:1;a", 4, 8);
        fault("a:1;a$", 4, 4);
        fault("rank:1;b:1;rank:2;", 4, 11);
        sound("a:1;aa:1;aaa:1;");
    }

    private static void depth() {
        sound("a:" + DEEP_7 + "1)))))));");
        fault("a:(" + DEEP_7 + "1))))))));", 5, 10);
        fault("a:(" + DEEP_7 + "(", 5, 10);
        fault("a:(" + DEEP_7 + "if", 5, 10);
        fault("a:(" + DEEP_7 + "least", 5, 10);
        fault("a:(" + DEEP_7 + "most", 5, 10);
        fault("a:(" + DEEP_7 + "week", 5, 10);
        fault("a:(" + DEEP_7 + "zz", 5, 10);
        fault("a:(" + DEEP_7 + "abcdefghij", 5, 10);
        fault("a:(" + DEEP_7 + "a", 5, 10);
        fault("a:(" + DEEP_7 + ")", 2, 10);
        fault("a:(" + DEEP_7 + "-", 2, 10);
        fault("a:(" + DEEP_7 + "then", 2, 10);
        fault("a:(" + DEEP_7 + "not", 2, 10);
        fault("a:(" + DEEP_7, 2, 10);
        fault("a:(" + DEEP_7 + "?", 1, 10);
        fault("a:(" + DEEP_7 + "7777777", 1, 10);
        // A SUM's other ITEMS are no deeper; neither is another DEF.
        sound("a:" + DEEP_7 + "1+2*week-3)))))));b:" + DEEP_7 + "a)))))));");
        sound("a:(1)+((2))*(((3)));");
    }

    private static String ifs(int many) {
        return "if 1<2 then 1 else ".repeat(many);
    }

    private static void depthOfIfs() {
        sound("a:" + ifs(7) + "1;");
        // The eighth if is at depth 8: what is behind its then is too deep.
        fault("a:" + ifs(7) + "if 1<2 then 1 else 2;", 5, 2 + 7 * 19 + 12);
        fault("a:" + ifs(7) + "if 1<2 then then", 2, 2 + 7 * 19 + 12);
        // What an if tests is no deeper than the if.
        sound("a:" + ifs(6) + "if (1)<least(1,2) then 1 else 2;");
        fault("a:" + ifs(7) + "if (1)<2 then 1 else 2;", 5, 2 + 7 * 19 + 4);
        fault("a:" + ifs(7) + "if 1+2*3<4 and not 5=6 then 1 else 2;", 5, 2 + 7 * 19 + 28);
        sound("a:" + ifs(4) + "(if 1<2 then (3) else 2);");
        fault("a:" + ifs(5) + "(if 1<2 then (3) else 2);", 5, 2 + 5 * 19 + 14);
        fault("a:" + ifs(6) + "(if 1<2 then (3) else 2);", 5, 2 + 6 * 19 + 13);
    }

    private static void depthOfFews() {
        sound("a:" + "least(1,".repeat(7) + "1" + ")".repeat(7) + ";");
        fault("a:" + "least(1,".repeat(8) + "1" + ")".repeat(8) + ";", 5, 2 + 7 * 8 + 6);
        fault("a:" + "least(".repeat(8) + "1", 5, 2 + 8 * 6);
        fault("a:" + "least(".repeat(8) + "if", 2, 2 + 8 * 6);
        fault("a:" + "most(".repeat(8) + "zz", 5, 2 + 8 * 5);
        fault("a:" + "most(1,".repeat(7) + "most(,", 2, 2 + 7 * 7 + 5);
        sound("a:" + "(least(".repeat(3) + "(1)" + ",2))".repeat(3) + ";");
        fault("a:" + "(least(".repeat(3) + "((1))" + ",2))".repeat(3) + ";", 5, 2 + 21 + 2);
    }

    private static void unknownWords() {
        fault("a:zz;", 6, 2);
        fault("a:a;", 6, 2);
        fault("a:b;b:1;", 6, 2);
        fault("a:1;b:1+b;", 6, 8);
        fault("a:1+abcdefghi;", 6, 4);
        fault("a:if zz<1 then 1 else 2;", 6, 5);
        fault("a:if not zz<1 then 1 else 2;", 6, 9);
        fault("a:least(zz,1);", 6, 8);
        fault("a:(weeks);", 6, 3);
        fault("a:1 zz;", 2, 4);
        fault("a:zz$", 6, 2);
        fault("rank:1;a:ran;", 6, 9);
    }

    private static void firstFault() {
        fault("a:1 $ a:1;", 1, 4);
        fault("a:zz; $", 6, 2);
        fault("a:); zz", 2, 2);
        fault("a:1;a:zz;", 4, 4);
        fault("a:1;b:zz;a:1;", 6, 6);
    }

    // What a text answers, seen by what a BREACH costs: cut to 0 to 1,000.
    private static void breach(String text, long want) {
        PrairiePool x = new PrairiePool();
        x.farm(3, 40, 500);
        x.sign(0, 0, 9);
        Check.acts(x, text, 0);
        CHECK.due("FAULT of " + text, x.fault(0), 0);
        x.outside(0, 130, 7, 9);
        CHECK.due("breach of " + text, x.cost(0, 2), want * 7);
    }

    private static void numbers() {
        breach("breach: 2 + 3 * 4;", 14);
        breach("breach: (2 + 3) * 4;", 20);
        breach("breach: 20 - 5 - 3;", 12);
        breach("breach: 100 / 10 / 5;", 2);
        breach("breach: 100 / 10 * 5;", 50);
        breach("breach: 17 % 10 * 3;", 21);
        breach("breach: 100 + (0 - 7) / 2;", 97);
        breach("breach: 100 + (0 - 7) % 4;", 97);
        breach("breach: 100 + 7 % (0 - 4);", 103);
        breach("breach: least(3, 4) * 10 + most(3, 4);", 34);
        breach("breach: least(0 - 3, 4) + 10;", 7);
        breach("breach: week + year;", 132);
        breach("breach: acres + district + bushels + price;", 59);
        breach("breach: debt;", 500);
        breach("breach: 1 + grade + grader + cars + waits;", 1);
        // Round on: 2^63 is the least number.
        String p = "a: 65536; b: a * a * a * 32768; ";
        breach(p + "breach: if b < 0 then 5 else 6;", 5);
        breach(p + "breach: if b = b * 3 then 5 else 6;", 5);
        breach(p + "breach: if b - 1 > 0 then 5 else 6;", 5);
        breach(p + "breach: if b / (0 - 1) = b then 5 else 6;", 5);
        breach(p + "breach: if b % (0 - 1) = 0 then 5 else 6;", 5);
        breach(p + "breach: if b * 2 = 0 then 5 else 6;", 5);
        breach(p + "breach: if least(b, 0) = b and most(b, 0) = 0 then 5 else 6;", 5);
        breach("breach: 999999 % 1000;", 999);
        breach("breach: 000012;", 12);
    }

    private static void none() {
        breach("breach: 1 / 0;", 0);
        breach("breach: 1 % 0;", 0);
        breach("breach: 0 / 0;", 0);
        breach("breach: 5 + 1 / 0;", 0);
        breach("breach: 5 + 0 * (1 / 0);", 0);
        breach("breach: least(5, 1 / 0);", 0);
        breach("breach: most(1 % 0, 5);", 0);
        breach("breach: 5 / (1 / 0);", 0);
        breach("a: 1 / 0; breach: a + 5;", 0);
        breach("a: 1 / 0; breach: 5;", 5);
        breach("breach: if 1 < 2 then 1 / 0 else 5;", 0);
        breach("breach: 5 + (if 1 < 2 then 1 / 0 else 5);", 0);
        breach("breach: 5 + (if 2 < 1 then 5 else 1 / 0);", 0);
        breach("a: if 1 < 2 then 1 / 0 else 5; breach: most(a, 5);", 0);
        breach("a: if 1 < 2 then 5 else 1 / 0; breach: most(a, 4);", 5);
        // The way that is not gone does not matter.
        breach("breach: if 1 < 2 then 5 else 1 / 0;", 5);
        breach("breach: if 2 < 1 then 1 / 0 else 5;", 5);
        breach("a: 1 / 0; breach: if grade = 0 then 5 else a;", 5);
        // A ONE with none does not hold, nor does not of it.
        breach("breach: if 1 / 0 = 1 then 5 else 6;", 6);
        breach("breach: if not 1 / 0 = 1 then 5 else 6;", 6);
        breach("breach: if 1 = 1 / 0 then 5 else 6;", 6);
        breach("breach: if not 1 < 1 % 0 then 5 else 6;", 6);
        breach("breach: if 1 / 0 = 1 / 0 then 5 else 6;", 6);
        breach("breach: if 1 / 0 = 1 or 1 = 1 then 5 else 6;", 5);
        breach("breach: if 1 = 1 and not 1 / 0 = 1 then 5 else 6;", 6);
        breach("a: 1 / 0; b: if a = a then 1 else 2; breach: b;", 2);
        // Without: another number, which for votes is 1.
        PrairiePool x = new PrairiePool();
        x.farm(0, 5, 0);
        x.vote(0, 1);
        Check.acts(x, "votes: 1 / 0;", 0);
        CHECK.due("votes that are none", x.result(0, 0), 1);
        Check.acts(x, "votes: 0;", 0);
        CHECK.due("votes that are 0", x.result(0, 0), 0);
        Check.acts(x, "vote: 0;", 0);
        CHECK.due("without such a DEF", x.result(0, 0), 1);
        PrairiePool y = new PrairiePool();
        y.farm(0, 1, 0);
        y.farm(0, 2, 0);
        y.vote(0, 1);
        y.vote(1, 0);
        Check.acts(y, "votes: 1 / (acres - 1);", 0);
        CHECK.due("one that is none is 1, as the other", y.result(0, 0), 0);
        Check.acts(y, "votes: 2 / (acres - 1);", 0);
        CHECK.due("less than 2", y.result(0, 0), 0);
        y.vote(0, 0);
        y.vote(1, 1);
        CHECK.due("2 are more", y.result(0, 0), 1);
    }

    private static void tests() {
        breach("breach: if 1 < 2 then 5 else 6;", 5);
        breach("breach: if 2 < 2 then 5 else 6;", 6);
        breach("breach: if 2 > 2 then 5 else 6;", 6);
        breach("breach: if 3 > 2 then 5 else 6;", 5);
        breach("breach: if 2 = 2 then 5 else 6;", 5);
        breach("breach: if not 2 = 2 then 5 else 6;", 6);
        breach("breach: if not 2 < 2 then 5 else 6;", 5);
        breach("breach: if not 2 > 3 then 5 else 6;", 5);
        breach("breach: if 1 < 2 and 2 < 3 and 3 < 4 then 5 else 6;", 5);
        breach("breach: if 1 < 2 and 3 < 3 and 3 < 4 then 5 else 6;", 6);
        breach("breach: if 1 < 2 and 2 < 3 and 4 < 4 then 5 else 6;", 6);
        breach("breach: if 2 < 1 or 3 < 2 or 3 < 4 then 5 else 6;", 5);
        breach("breach: if 2 < 1 or 3 < 2 or 4 < 4 then 5 else 6;", 6);
        breach("breach: if 1 < 2 or 3 < 2 then 5 else 6;", 5);
        breach("breach: if 1 < 2 then if 2 < 1 then 5 else 6 else 7;", 6);
        breach("breach: if 2 < 1 then 5 else if 1 < 2 then 6 else 7;", 6);
        breach("breach: 10 + (if 1 < 2 then 5 else 6) * 2;", 20);
        breach("breach: if 1 < 2 then 5 else 6 + 100;", 5);
        breach("breach: if 2 < 1 then 5 else 6 + 100;", 106);
        breach("breach: if (if 1 < 2 then 3 else 4) = 3 then 5 else 6;", 5);
    }

    private static void defsOfDefs() {
        breach("a: 3; b: a * a; c: b + a; breach: c;", 12);
        breach("breach: 3; a: 4;", 3);
        breach("a: week; breach: a - 100;", 30);
        // Each DEF names the one ahead many times: that must not take long.
        String text = "a:1;";
        String names = "abcdefghi";
        for (int i = 1; i < 9; i++) {
            String n = names.substring(i - 1, i);
            text += names.charAt(i) + ":" + (n + "+").repeat(20) + n + ";";
        }
        breach(text + "breach:i%997;", (long) (Math.pow(21, 8) % 997));
    }

    private static void inForce() {
        PrairiePool x = new PrairiePool();
        x.farm(0, 1, 0);
        x.sign(0, 0, 9);
        for (int year = 0; year < 10; year++) {
            x.outside(0, year * 52 + 10, 1, 0);
        }
        Check.acts(x, "breach: 5;", 62);
        CHECK.due("ahead of it", x.cost(0, 0), 0);
        CHECK.due("in its WEEK", x.cost(0, 1), 5);
        CHECK.due("behind it", x.cost(0, 9), 5);
        Check.acts(x, "breach: 6;", 10);
        CHECK.due("one that began ahead", x.cost(0, 0), 6);
        CHECK.due("that which began latest", x.cost(0, 1), 5);
        Check.acts(x, "breach: 7;", 62);
        CHECK.due("of like ones the later", x.cost(0, 1), 7);
        Check.acts(x, "", 270);
        CHECK.due("one that says nothing is in force too", x.cost(0, 9), 0);
        CHECK.due("ahead of that", x.cost(0, 4), 7);
        // One with a FAULT changes nothing.
        PrairiePool y = new PrairiePool();
        y.farm(0, 1, 0);
        y.sign(0, 0, 9);
        y.outside(0, 0, 1, 0);
        Check.acts(y, "breach: 5;", 0);
        Check.acts(y, "breach: 6; a", 0);
        CHECK.due("status()", y.status(), 10);
        CHECK.due("as it was", y.cost(0, 0), 5);
        Check.acts(y, "a: 9; breach: a;", 0);
        CHECK.due("a new one", y.cost(0, 0), 9);
    }

    private static void bounds() {
        breach("breach: 1000;", 1000);
        breach("breach: 1001;", 1000);
        breach("breach: 0 - 1;", 0);
        breach("breach: 999999 * 999999 * 999999;", 1000);
        PrairiePool x = new PrairiePool();
        x.farm(0, 1, 0);
        x.farm(0, 2, 0);
        x.vote(0, 1);
        x.vote(1, 0);
        Check.acts(x, "votes: acres * 1000;", 0);
        CHECK.due("1,000 and 1,000", x.result(0, 0), 0);
        x.vote(0, 0);
        x.vote(1, 1);
        CHECK.due("1,000 and 1,000 the other way", x.result(0, 0), 0);
        x.vote(0, 1);
        x.vote(1, 0);
        CHECK.due("like ones", x.hangs(0), -1);
        Check.acts(x, "votes: 0 - acres;", 0);
        CHECK.due("0 and 0", x.result(0, 0), 0);
        Check.acts(x, "votes: 1001 - acres;", 0);
        CHECK.due("1,000 and 999", x.result(0, 0), 1);
    }

    // What was told ahead, of another thing, is not told any more.
    private static void notTold() {
        PrairiePool x = new PrairiePool();
        x.farm(3, 40, 500);
        x.elevator(2, 1000);
        x.sign(0, 0, 9);
        x.outside(0, 130, 7, 9);
        x.load(0, 0, 10, 0, 130, 130);
        Check.acts(x, "first: 1 + week + acres + debt + district + bushels + price + cars + waits + grader; "
                + "votes: bushels + price + cars + waits + grade + grader; turn: cars + waits; breach: 1 + cars;", 0);
        x.vote(0, 1);
        CHECK.due("votes", x.result(0, 130), 0);
        x.cost(0, 2);
        x.turns(130, 3, 0);
        CHECK.due("votes behind breach and turn", x.result(0, 130), 0);
        x.cost(0, 2);
        x.turns(130, 3, 0);
        CHECK.due("first behind breach and turn", x.first(0, 2, 130), 10);
        x.turns(130, 3, 0);
        CHECK.due("breach behind turn", x.cost(0, 2), 7);
    }

    private static void longest() {
        StringBuilder s = new StringBuilder("breach:1");
        while (s.length() < 497) {
            s.append("+1");
        }
        String ones = s.append(" ;").toString();
        PrairiePool x = new PrairiePool();
        x.farm(0, 1, 0);
        x.sign(0, 0, 9);
        x.outside(0, 0, 1, 0);
        CHECK.due("a TEXT of " + ones.length(), Check.acts(x, ones, 0), 1);
        CHECK.due("its answer", x.cost(0, 0), 246);
        String nest = "3";
        for (int i = 0; i < 3; i++) {
            nest = "(if 1=1 and 5>1+1*least(9,1+1*(" + nest + ")) then 3 else 4)";
        }
        PrairiePool z = new PrairiePool();
        z.farm(0, 1, 0);
        z.sign(0, 0, 9);
        z.outside(0, 0, 1, 0);
        Check.acts(z, "breach: " + nest + ";", 0);
        CHECK.due("FAULT of a deep one", z.fault(0), 5);
        nest = "if 1=1 and 9>1+1*(1+1*least(9,1+1*(if 1=1 and 9>1+1*(if 2=2 then 1 else 2)"
                + " then 3 else 4))) then 7 else 8";
        Check.acts(z, "breach: " + nest + ";", 0);
        CHECK.due("FAULT of one that is not too deep", z.fault(0), 0);
        CHECK.due("its answer", z.cost(0, 0), 7);
    }
}
