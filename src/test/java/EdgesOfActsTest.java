/** Part 2 of the document and promises 18 to 20: a test of its own for each sentence that names an edge. */
public final class EdgesOfActsTest {
    private static final Check CHECK = new Check("EdgesOfActsTest");
    private static final int MIN = Integer.MIN_VALUE;
    private static final int MAX = Integer.MAX_VALUE;
    private static final String TEN = "a:1;b:1;c:1;d:1;e:1;f:1;g:1;h:1;i:1;j:1;";
    private static final String[] KEY_WORDS = {"if", "then", "else", "and", "or", "not", "least", "most"};
    private static final String[] VARIABLES = {"grade", "grader", "week", "year", "bushels", "acres", "debt",
        "district", "cars", "waits", "price"};

    public static void main(String[] args) {
        tape();
        grammar();
        faults();
        numbers();
        asked();
        CHECK.end();
    }

    private static void tape() {
        CHECK.says("Twenty bytes come behind those on the tape, the highest of each int first: how many it has; NONE"
                + " if there would be more than 500", EdgesOfActsTest::fed);
        CHECK.says("The first n bytes of the tape (which is empty then, but for 5, 7) are a TEXT",
                EdgesOfActsTest::firstBytes);
        CHECK.says("which is empty then, but for 5, 7", EdgesOfActsTest::emptyThen);
        CHECK.says("TEXTS, at most 4", EdgesOfActsTest::mostTexts);
        CHECK.says("each in force from a WEEK on (that which began latest; of like ones the later)",
                EdgesOfActsTest::inForce);
        CHECK.says("of at most 500 bytes: DEFS", EdgesOfActsTest::longestText);
        CHECK.says("Of the latest acts() with STATUS 0 or 10, what 0: the FAULT (0 without one), 1: its place (NONE"
                + " without). NONE for others, and ahead of any", EdgesOfActsTest::faultTold);
        CHECK.says("an empty tape", EdgesOfActsTest::emptyTape);
    }

    private static void grammar() {
        CHECK.says("TOKENS, as long as they go, between them blanks (10, 32)", EdgesOfActsTest::tokens);
        CHECK.says("WORDS (small letters)", EdgesOfActsTest::words);
        CHECK.says("NUMBERS (1 to 6 digits)", EdgesOfActsTest::digits);
        CHECK.says("SIGNS : ; < > = + - * / % ( ) ,", EdgesOfActsTest::signs);
        CHECK.says("TEXT: {DEF}", EdgesOfActsTest::noDefs);
        CHECK.says("TEST: ONE {and ONE}, or ONE {or ONE} (not mixed)", EdgesOfActsTest::notMixed);
        CHECK.says("ONE: [not] SUM COMPARES SUM", EdgesOfActsTest::oneNot);
        CHECK.says("the NAME of a DEF ahead", EdgesOfActsTest::namesAhead);
        CHECK.says("NAME: a WORD of 1 to 8 letters that is no VARIABLE, nor if, then, else, and, or, not, least, most",
                EdgesOfActsTest::names);
        CHECK.says("WHOLE: if TEST then WHOLE else WHOLE, or SUM", EdgesOfActsTest::wholes);
        CHECK.says("FEW ( SUM , SUM )", EdgesOfActsTest::fews);
    }

    private static void faults() {
        CHECK.says("FAULTS, the first along the text (of one TOKEN the least kind)", EdgesOfActsTest::firstAlong);
        CHECK.says("1 no TOKEN begins so (a NUMBER of 7 digits and more: at its first)", EdgesOfActsTest::noToken);
        CHECK.says("2 it can't stand there (the end: the text's length)", EdgesOfActsTest::theEnd);
        CHECK.says("3 an 11th DEF (at its NAME)", EdgesOfActsTest::eleventh);
        CHECK.says("4 a NAME there is already", EdgesOfActsTest::already);
        CHECK.says("5 it is deeper than 8", EdgesOfActsTest::deeper);
        CHECK.says("a WHOLE in an if or in brackets, a SUM in a FEW, is one deeper than that around it; a DEF's own is"
                + " 1", EdgesOfActsTest::oneDeeper);
        CHECK.says("at its first TOKEN, if that can begin it (any WORD that is no key word can)",
                EdgesOfActsTest::canBegin);
        CHECK.says("6 a WORD, where an ATOM must begin, that is none of these, nor a key word (that: 2)",
                EdgesOfActsTest::noneOfThese);
    }

    private static void numbers() {
        CHECK.says("NUMBERS are of 64 bits, round on", EdgesOfActsTest::roundOn);
        CHECK.says("/ and % as the machine's", EdgesOfActsTest::asTheMachine);
        CHECK.says("by 0 there is none, and none in what it is in", EdgesOfActsTest::byZero);
        CHECK.says("a ONE with none does not hold, nor does not of it", EdgesOfActsTest::oneWithNone);
        CHECK.says("without such a DEF, or where it is none: another number, told here", EdgesOfActsTest::without);
        CHECK.says("VARIABLES that are not told are 0", EdgesOfActsTest::notTold);
    }

    private static void asked() {
        CHECK.says("rank (of a GRADING, in its LOAD's WEEK: grade, grader, week, year, bushels: its NET",
                EdgesOfActsTest::rankInItsWeek);
        CHECK.says("bushels: its NET, district: of the FARM; -1,000,000 to 1,000,000; 0 without",
                EdgesOfActsTest::rankBounds);
        CHECK.says("first (in the last WEEK of a YEAR: grade, year; 0 to 1,000 pence a bushel; 0 without)",
                EdgesOfActsTest::firstBounds);
        CHECK.says("held (then: grade, year; 0 to 1,000 of each 1,000; 0 without)", EdgesOfActsTest::heldBounds);
        CHECK.says("stand (then: year; 0 to 1,000 of each 1,000; 0 without)", EdgesOfActsTest::standBounds);
        CHECK.says("bushels, price, week, year; 0 to 1,000 pence a bushel; 0 without", EdgesOfActsTest::breachBounds);
        CHECK.says("one by one to the ELEVATOR with the greatest turn (-1,000,000 to 1,000,000; 0 without",
                EdgesOfActsTest::turnBounds);
        CHECK.says("votes (of a FARM in a WEEK: acres, debt, district, week, year; 0 to 1,000; 1 without)",
                EdgesOfActsTest::voteBounds);
    }

    // ---- the tape

    private static int blanks(PrairiePool x) {
        return x.feed(0x20202020, 0x20202020, 0x20202020, 0x20202020, 0x20202020);
    }

    private static void fed() {
        PrairiePool x = new PrairiePool();
        for (int i = 1; i <= 25; i++) {
            CHECK.due("feed " + i, blanks(x), 20 * i);
        }
        CHECK.due("the 26th", x.feed(-1, -1, -1, -1, -1), -1);
        CHECK.due("the 27th", x.feed(-1, -1, -1, -1, -1), -1);
        CHECK.due(x, "all 500 are as they were fed", x.acts(500, 0), 0, 0);
        CHECK.due("the tape begins again", blanks(x), 20);
        // Each of the twenty, in its place.
        for (int place = 0; place < 20; place++) {
            int[] v = new int[5];
            for (int i = 0; i < 20; i++) {
                v[i / 4] = v[i / 4] << 8 | (i == place ? '?' : ' ');
            }
            PrairiePool y = new PrairiePool();
            y.feed(v[0], v[1], v[2], v[3], v[4]);
            CHECK.due(y, "acts", y.acts(20, 0), -1, 10);
            CHECK.due("its place", y.fault(1), place);
        }
        // Bytes above 127 are no letters, nor is 0.
        for (int v : new int[] {0, 0x80202020, 0xff202020, 0xe1202020, 0xba202020, 0x7f202020}) {
            PrairiePool y = new PrairiePool();
            y.feed(v, 0, 0, 0, 0);
            CHECK.due(y, "acts of " + Integer.toHexString(v), y.acts(1, 0), -1, 10);
            CHECK.due("no TOKEN", y.fault(0), 1);
            CHECK.due("its place", y.fault(1), 0);
        }
    }

    private static void firstBytes() {
        String text = "a:12;bc:34;";
        int[] defs = {0, -1, -1, -1, -1, 1, -1, -1, -1, -1, -1, 2, 2};
        for (int n = 0; n < defs.length; n++) {
            PrairiePool x = new PrairiePool();
            Check.feed(x, text);
            CHECK.due(x, "the first " + n, x.acts(n, 0), defs[n], defs[n] < 0 ? 10 : 0);
            CHECK.due("FAULT", x.fault(0), defs[n] < 0 ? 2 : 0);
            CHECK.due("its place is the end", x.fault(1), defs[n] < 0 ? n : -1);
        }
        PrairiePool x = new PrairiePool();
        Check.feed(x, text);
        for (int n : new int[] {-1, 21, 500, 501, MIN, MAX}) {
            CHECK.refused(x, "the first " + n + " of 20", x.acts(n, 0), 5);
        }
        CHECK.due(x, "all 20", x.acts(20, 0), 2, 0);
    }

    private static void emptyThen() {
        PrairiePool x = new PrairiePool();
        blanks(x);
        x.acts(21, 0);
        CHECK.due("behind 5 it is as it was", blanks(x), 40);
        x.acts(0, 520);
        CHECK.due("behind 5 of a WEEK too", blanks(x), 60);
        CHECK.due(x, "a part of it", x.acts(1, 0), 0, 0);
        CHECK.due("behind 0 it is empty", blanks(x), 20);
        CHECK.due(x, "none of it", x.acts(0, 0), 0, 0);
        CHECK.due("empty, though none was read", blanks(x), 20);
        Check.feed(x, "?");
        CHECK.due(x, "a FAULT", x.acts(21, 0), -1, 10);
        CHECK.due("behind 10 it is empty", blanks(x), 20);
        x.acts(20, 0);
        blanks(x);
        x.acts(20, 0);
        Check.feed(x, "?");
        CHECK.refused(x, "one too many", x.acts(1, 0), 7);
        CHECK.due("behind 7 it is as it was", blanks(x), 40);
        CHECK.due("and so is what fault() tells", x.fault(0), 0);
    }

    private static void mostTexts() {
        PrairiePool x = new PrairiePool();
        for (int i = 0; i < 4; i++) {
            CHECK.due(x, "a FAULT makes no TEXT", Check.acts(x, "?", 0), -1, 10);
            CHECK.due(x, "TEXT " + i, Check.acts(x, "a:1;", 100 * i), 1, 0);
        }
        CHECK.refused(x, "the 5th", Check.acts(x, "a:1;", 519), 7);
        CHECK.refused(x, "the 5th, empty", x.acts(0, 0), 7);
        CHECK.refused(x, "the 5th in no WEEK", x.acts(0, 520), 5);
        CHECK.refused(x, "the 5th of more than there is", x.acts(21, 0), 5);
        CHECK.refused(x, "the 5th of less than none", x.acts(-1, 0), 5);
    }

    private static PrairiePool seller(int... weeks) {
        PrairiePool x = new PrairiePool();
        x.farm(3, 40, 500);
        x.sign(0, 0, 9);
        for (int week : weeks) {
            x.outside(0, week, 1, 9);
        }
        return x;
    }

    private static void inForce() {
        PrairiePool x = seller(0, 103, 104, 519);
        CHECK.due("no TEXT", x.cost(0, 0) + x.cost(0, 9), 0);
        Check.acts(x, "breach: 1;", 103);
        CHECK.due("ahead of it", x.cost(0, 0), 0);
        CHECK.due("in its WEEK", x.cost(0, 1), 1);
        CHECK.due("the last WEEK", x.cost(0, 9), 1);
        Check.acts(x, "breach: 2;", 104);
        CHECK.due("a WEEK ahead of the next", x.cost(0, 1), 1);
        CHECK.due("the next", x.cost(0, 2), 2);
        Check.acts(x, "breach: 3;", 0);
        CHECK.due("told later, but began ahead", x.cost(0, 2), 2);
        CHECK.due("in force from WEEK 0", x.cost(0, 0), 3);
        Check.acts(x, "breach: 4;", 104);
        CHECK.due("of like ones the later", x.cost(0, 2), 4);
        CHECK.due("for good", x.cost(0, 9), 4);
        PrairiePool y = seller(518, 519);
        Check.acts(y, "breach: 5;", 519);
        CHECK.due("from the last WEEK on", y.cost(0, 9), 5);
        for (int week : new int[] {-1, 520, MIN, MAX}) {
            CHECK.refused(y, "from " + week, y.acts(0, week), 5);
        }
    }

    private static String ones(int length) {
        String s = "breach:1" + "+1".repeat((length - 9) / 2);
        return s + " ".repeat(length - 1 - s.length()) + ";";
    }

    private static void longestText() {
        for (int length : new int[] {480, 499, 500}) {
            PrairiePool x = seller(0);
            String text = ones(length);
            CHECK.due(x, "a TEXT of " + text.length(), Check.acts(x, text, 0), 1, 0);
            CHECK.due("its answer", x.cost(0, 0), 1 + (length - 9) / 2);
        }
        // One NAME, one WORD and one row of blanks as long as the tape.
        PrairiePool x = new PrairiePool();
        CHECK.due(x, "500 letters", Check.acts(x, "a".repeat(500), 0), -1, 10);
        CHECK.due("no NAME", x.fault(0), 2);
        CHECK.due("its place", x.fault(1), 0);
        Check.acts(x, "a:" + "b".repeat(498), 0);
        CHECK.due("no WORD there is", x.fault(0), 6);
        Check.acts(x, "a:" + "1".repeat(498), 0);
        CHECK.due("no NUMBER", x.fault(0), 1);
        CHECK.due("its place", x.fault(1), 2);
        Check.acts(x, "(".repeat(500), 0);
        CHECK.due("no NAME", x.fault(0), 2);
        Check.acts(x, "a:" + "(".repeat(498), 0);
        CHECK.due("too deep", x.fault(0), 5);
        CHECK.due("its place", x.fault(1), 10);
        CHECK.due(x, "blanks", Check.acts(x, " \n".repeat(250), 0), 0, 0);
        Check.acts(x, "a:1;" + " ".repeat(495) + "a", 0);
        CHECK.due("the last byte", x.fault(1), 499);
        Check.acts(x, "a:1;" + " ".repeat(496), 0);
        CHECK.due("blanks behind it", x.status(), 0);
        Check.acts(x, "a:1" + " ".repeat(497), 0);
        CHECK.due("the end of 500", x.fault(1), 500);
    }

    private static void faultTold() {
        PrairiePool x = new PrairiePool();
        for (int what : new int[] {0, 1, 2, -1, MIN, MAX}) {
            CHECK.due("ahead of any: fault(" + what + ")", x.fault(what), -1);
        }
        x.acts(1, 0);
        CHECK.due("behind STATUS 5", x.fault(0), -1);
        Check.acts(x, "a:b;", 0);
        CHECK.due("FAULT", x.fault(0), 6);
        CHECK.due("place", x.fault(1), 2);
        for (int what : new int[] {2, -1, MIN, MAX}) {
            CHECK.due("fault(" + what + ")", x.fault(what), -1);
        }
        x.acts(1, 0);
        CHECK.due("a 5 tells nothing", x.fault(0), 6);
        CHECK.due("a 5 tells nothing", x.fault(1), 2);
        CHECK.due("STATUS", x.status(), 5);
        x.fault(0);
        CHECK.due("fault() has none", x.status(), 5);
        for (int i = 0; i < 4; i++) {
            x.acts(0, 0);
        }
        CHECK.due("without one", x.fault(0), 0);
        CHECK.due("NONE without", x.fault(1), -1);
        Check.acts(x, "?", 0);
        CHECK.due("STATUS", x.status(), 7);
        CHECK.due("a 7 tells nothing", x.fault(0), 0);
        Check.acts(new PrairiePool(), "?", 0);
        CHECK.due("nor does another object's", x.fault(0), 0);
        PrairiePool y = new PrairiePool();
        Check.acts(y, "?", 0);
        CHECK.due("a FAULT at place 0", y.fault(1), 0);
    }

    private static void emptyTape() {
        PrairiePool x = new PrairiePool();
        CHECK.refused(x, "acts(1, 0)", x.acts(1, 0), 5);
        CHECK.due(x, "acts(0, 0)", x.acts(0, 0), 0, 0);
        CHECK.due("feed", blanks(x), 20);
    }

    // ---- TOKENS and what they make

    private static void fault(String text, int kind, int place) {
        PrairiePool x = new PrairiePool();
        int got = Check.acts(x, text, 0);
        CHECK.due("STATUS of " + text, x.status(), kind == 0 ? 0 : 10);
        CHECK.due("FAULT of " + text, x.fault(0), kind);
        CHECK.due("place of the FAULT of " + text, x.fault(1), place);
        CHECK.due("DEFS of " + text, got >= 0, kind == 0);
    }

    private static void sound(String text) {
        fault(text, 0, -1);
    }

    // What a text answers, seen by what a BREACH costs: cut to 0 to 1,000.
    private static void breach(String text, long want) {
        PrairiePool x = seller(130);
        Check.acts(x, text, 0);
        CHECK.due("FAULT of " + text, x.fault(0), 0);
        CHECK.due("breach of " + text, x.cost(0, 2), want);
    }

    private static void tokens() {
        sound("a:1;b:a;");
        sound(" a : 1 ; ");
        sound("\na\n:\n1\n;\n");
        sound("a:1+1;b:a+a;");
        // Without a blank a WORD goes on, and so does a NUMBER.
        fault("a:iff 1<2 then 1 else 2;", 6, 2);
        fault("a:if 1<2 thenn 1 else 2;", 2, 9);
        fault("a:if 1<2 then 1 elsee 2;", 2, 16);
        sound("a:if1<2then 1else 2;");
        fault("a:1 1;", 2, 4);
        breach("breach:1 1;".replace(" ", ""), 11);
        breach("breach:11+1;", 12);
        fault("a:week year;", 2, 7);
        fault("a:weekyear;", 6, 2);
        fault("a:leastt(1,2);", 6, 2);
        fault("a:least (1,2) ;b:least(1,2)least(1,2);", 2, 27);
        // No other byte is a blank.
        for (char c : new char[] {0, 9, 11, 12, 13, 127, 128, 160, 255}) {
            fault("a:1;" + c, 1, 4);
            fault("a:" + c + "1;", 1, 2);
        }
    }

    private static void words() {
        sound("a:1;z:a;az:z+a;");
        fault("`:1;", 1, 0);
        fault("{:1;", 1, 0);
        fault("A:1;", 1, 0);
        fault("Z:1;", 1, 0);
        fault("a`:1;", 1, 1);
        fault("a{:1;", 1, 1);
        fault("aZ:1;", 1, 1);
        fault("a_b:1;", 1, 1);
        fault("a1:1;", 2, 1);
        fault("\u00e1:1;", 1, 0);
    }

    private static void digits() {
        breach("breach:0;", 0);
        breach("breach:9;", 9);
        breach("breach:000001;", 1);
        breach("breach:000000;", 0);
        breach("breach:999999-999000;", 999);
        breach("breach:999999/1000;", 999);
        breach("breach:100000/1000+12345/1000;", 112);
        sound("a:999999;");
        fault("a:1000000;", 1, 2);
        fault("a:0000000;", 1, 2);
        fault("a:9999999;", 1, 2);
        fault("a:99999999999999999999;", 1, 2);
    }

    private static void signs() {
        String signs = ":;<>=+-*/%(),";
        for (char c = 33; c < 127; c++) {
            boolean isWord = c >= 'a' && c <= 'z';
            boolean isDigit = c >= '0' && c <= '9';
            if (!isWord && !isDigit) {
                // A SIGN can't stand at the beginning; another byte can't be anywhere.
                fault(c + "a:1;", signs.indexOf(c) >= 0 ? 2 : 1, 0);
            }
        }
        sound("a:if 1<2 and 1>2 and 1=2 then least(1,2)+1-1*1/1%1 else 1;");
        // There is no SIGN of two bytes.
        fault("a:if 1<=2 then 1 else 2;", 2, 7);
        fault("a:if 1==2 then 1 else 2;", 2, 7);
        fault("a:if 1<>2 then 1 else 2;", 2, 7);
        fault("a::1;", 2, 2);
        fault("a:1;;", 2, 4);
    }

    private static void noDefs() {
        PrairiePool x = new PrairiePool();
        CHECK.due(x, "none", x.acts(0, 0), 0, 0);
        CHECK.due(x, "blanks", Check.acts(x, " \n ", 0), 0, 0);
        CHECK.due(x, "one", Check.acts(x, "a:1;", 0), 1, 0);
        CHECK.due(x, "ten", Check.acts(x, TEN, 0), 10, 0);
        // One without DEFS is in force as any other: it takes the others' DEFS away.
        PrairiePool y = seller(0);
        Check.acts(y, "breach: 5;", 0);
        CHECK.due("breach", y.cost(0, 0), 5);
        y.acts(0, 0);
        CHECK.due("no breach", y.cost(0, 0), 0);
    }

    private static void notMixed() {
        sound("a:if 1<2 then 1 else 2;");
        sound("a:if 1<2 and 1<2 and 1<2 and 1<2 then 1 else 2;");
        sound("a:if 1<2 or 1<2 or 1<2 or 1<2 then 1 else 2;");
        fault("a:if 1<2 and 1<2 or 1<2 then 1 else 2;", 2, 17);
        fault("a:if 1<2 or 1<2 and 1<2 then 1 else 2;", 2, 16);
        fault("a:if 1<2 and 1<2 and 1<2 or 1<2 then 1 else 2;", 2, 25);
        fault("a:if and 1<2 then 1 else 2;", 2, 5);
        fault("a:if 1<2 and then 1 else 2;", 2, 13);
        // Another TEST may be joined the other way.
        sound("a:if 1<2 and 1<2 then if 1<2 or 1<2 then 1 else 2 else if 1<2 and 1<2 then 3 else 4;");
        // An and in the brackets of an or.
        sound("a:if 1<2 or 1<(if 1<2 and 1<2 then 1 else 2) or 2<3 then 1 else 2;");
    }

    private static void oneNot() {
        sound("a:if not 1<2 then 1 else 2;");
        sound("a:if not 1<2 and not 1<2 then 1 else 2;");
        fault("a:if not not 1<2 then 1 else 2;", 2, 9);
        fault("a:if 1 not <2 then 1 else 2;", 2, 7);
        fault("a:if 1<not 2 then 1 else 2;", 2, 7);
        fault("a:if not then 1 else 2;", 2, 9);
        fault("a:if 1 then 1 else 2;", 2, 7);
        fault("a:if 1<2<3 then 1 else 2;", 2, 8);
        fault("a:if (1<2) then 1 else 2;", 2, 7);
        fault("a:1<2;", 2, 3);
        breach("breach:if not 1<2 then 5 else 6;", 6);
        breach("breach:if not 2<2 then 5 else 6;", 5);
        // The not is of its ONE alone.
        breach("breach:if not 1<2 or 1<2 then 5 else 6;", 5);
        breach("breach:if not 2<1 and 2<1 then 5 else 6;", 6);
    }

    private static void namesAhead() {
        sound("a:1;b:a;c:a+b;");
        fault("a:a;", 6, 2);
        fault("a:b;b:1;", 6, 2);
        fault("a:1;b:1+b;", 6, 8);
        sound("abcdefgh:1;b:abcdefgh;");
        fault("abcdefgh:1;b:abcdefg;", 6, 13);
        fault("abcdefgh:1;b:abcdefghi;", 6, 13);
        fault("abcdefg:1;b:abcdefgh;", 6, 12);
        sound("a:1;b:2;c:3;d:4;e:5;f:6;g:7;h:8;i:9;j:a+b+c+d+e+f+g+h+i;");
        breach("a:1;b:2;c:3;d:4;e:5;f:6;g:7;h:8;i:9;breach:a+b+c+d+e+f+g+h+i;", 45);
        // What is told for one TEXT is not for the next.
        PrairiePool x = new PrairiePool();
        Check.acts(x, "a:1;", 0);
        Check.acts(x, "b:a;", 0);
        CHECK.due("a DEF of another TEXT", x.fault(0), 6);
        // Nor is that of a TEXT with a FAULT.
        Check.acts(x, "a:1;b:?", 0);
        Check.acts(x, "c:a;", 0);
        CHECK.due("a DEF of a TEXT with a FAULT", x.fault(0), 6);
        // A DEF that is named stands for its number, not for its TOKENS; and is asked wherever it stands.
        breach("a:1+1;breach:a*3;", 6);
        breach("a:7;breach:1+2*a;", 15);
        breach("a:7;b:3;breach:1+2*least(9,a)*b;", 43);
        breach("a:7;breach:if 1<2 then if 2<1 then 1 else 1+2*a else 2;", 15);
    }

    private static void names() {
        for (int letters = 1; letters <= 8; letters++) {
            sound("abcdefgh".substring(0, letters) + ":1;");
        }
        fault("abcdefghi:1;", 2, 0);
        fault("a:1;abcdefghi:1;", 2, 4);
        for (String word : VARIABLES) {
            fault(word + ":1;", 2, 0);
            sound("a:" + word + ";");
            String longer = word + "x";
            fault(longer + ":1;", longer.length() > 8 ? 2 : 0, longer.length() > 8 ? 0 : -1);
            sound(word.substring(1) + ":1;");
        }
        for (String word : KEY_WORDS) {
            fault(word + ":1;", 2, 0);
            sound(word + "x:1;");
            sound("x" + word + ":1;");
        }
        // What is asked for may bear any other NAME, and be asked by none.
        breach("breachh:5;", 0);
        breach("breac:5;", 0);
        breach("rank:5;first:5;held:5;stand:5;turn:5;votes:5;", 0);
        breach("rank:1;first:2;held:3;stand:4;turn:6;votes:7;breach:8;", 8);
        breach("breach:8;rank:1;first:2;held:3;stand:4;turn:6;votes:7;", 8);
    }

    private static void wholes() {
        fault("a:if 1<2 then 1;", 2, 15);
        fault("a:if 1<2 else 1;", 2, 9);
        fault("a:if then 1 else 2;", 2, 5);
        fault("a:if 1<2 then else 2;", 2, 14);
        fault("a:if 1<2 then 1 else;", 2, 20);
        fault("a:if 1<2 then 1 else 2 else 3;", 2, 23);
        fault("a:1+if 1<2 then 1 else 2;", 2, 4);
        fault("a:2*if 1<2 then 1 else 2;", 2, 4);
        sound("a:1+(if 1<2 then 1 else 2);");
        fault("a:(if 1<2 then 1 else 2;", 2, 23);
        fault("a:();", 2, 3);
        fault("a:(1,2);", 2, 4);
        // All behind else is its own.
        breach("breach:if 1<2 then 5 else 6+100;", 5);
        breach("breach:(if 1<2 then 5 else 6)+100;", 105);
    }

    private static void fews() {
        for (String few : new String[] {"least", "most"}) {
            int at = 2 + few.length();
            sound("a:" + few + "(1,2);");
            sound("a:" + few + " ( 1 , 2 ) ;");
            fault("a:" + few + ";", 2, at);
            fault("a:" + few + " 1;", 2, at + 1);
            fault("a:" + few + "();", 2, at + 1);
            fault("a:" + few + "(,1);", 2, at + 1);
            fault("a:" + few + "(1);", 2, at + 2);
            fault("a:" + few + "(1,);", 2, at + 3);
            fault("a:" + few + "(1,2,3);", 2, at + 4);
            fault("a:" + few + "(1,2;", 2, at + 4);
            fault("a:" + few + "(if 1<2 then 1 else 2,3);", 2, at + 1);
            fault("a:" + few + "(1,if 1<2 then 1 else 2);", 2, at + 3);
            sound("a:" + few + "((if 1<2 then 1 else 2),3);");
            fault("a:" + few + "(1<2,3);", 2, at + 2);
        }
        breach("breach:least(3,4)*100+most(3,4)*10+least(7,7);", 347);
        breach("breach:least(4,3)*100+most(4,3)*10+most(7,7);", 347);
        breach("breach:10+least(0-1,1)+most(0-2,0-3);", 7);
    }

    // ---- FAULTS

    private static void firstAlong() {
        fault("a:1 2 ?", 2, 4);
        fault("a:1 ? 2", 1, 4);
        fault("a:b;?", 6, 2);
        fault("a:1;a:?", 4, 4);
        fault("a:1;b:?;a:1;", 1, 6);
        fault("a:((((((((1 ?", 5, 10);
        fault(TEN + "k:?", 3, 40);
        fault("a:1;if:1234567;", 2, 4);
        // Of one TOKEN the least kind.
        fault(TEN + "a:1;", 3, 40);
        fault(TEN + "year:1;", 2, 40);
        fault(TEN + "1234567", 1, 40);
        fault("a:((((((((zz", 5, 10);
        fault("a:((((((((1234567", 1, 10);
        fault("a:((((((((then", 2, 10);
        fault("1234567:1;", 1, 0);
        fault("a:1 1234567;", 1, 4);
    }

    private static void noToken() {
        fault("?", 1, 0);
        fault(" \n?", 1, 2);
        fault("a?:1;", 1, 1);
        fault("a:?", 1, 2);
        fault("a:1?", 1, 3);
        fault("a:1;?", 1, 4);
        fault("a:1234567", 1, 2);
        fault("a:12345678", 1, 2);
        fault("a:123456a", 2, 8);
        fault("a: 1234567;", 1, 3);
        fault("a:1+1234567+?;", 1, 4);
        // Where n cuts it to six it is a NUMBER.
        PrairiePool x = new PrairiePool();
        Check.feed(x, "a:1234567;");
        x.acts(8, 0);
        CHECK.due("cut to six", x.fault(0), 2);
        CHECK.due("at the end", x.fault(1), 8);
    }

    private static void theEnd() {
        String text = "a:if 1<2 then(1)else least(2,3)*4;";
        for (int n = 1; n < text.length(); n++) {
            String cut = text.substring(0, n);
            // A WORD that is cut may be none there is.
            PrairiePool x = new PrairiePool();
            CHECK.due(x, "acts of " + cut, Check.acts(x, cut, 0), -1, 10);
            boolean inWord = "a:i".equals(cut) || cut.endsWith("else l") || cut.endsWith("else le")
                    || cut.endsWith("else lea") || cut.endsWith("else leas");
            if (inWord) {
                CHECK.due("FAULT of " + cut, x.fault(0), 6);
            } else if (!cut.matches(".*(2 t|2 th|2 the|\\)e|\\)el|\\)els)")) {
                CHECK.due("FAULT of " + cut, x.fault(0), 2);
                CHECK.due("place of the FAULT of " + cut, x.fault(1), n);
            }
        }
        fault("a", 2, 1);
        fault("a ", 2, 2);
        fault("a:1 \n ", 2, 6);
        fault("a:1;b", 2, 5);
    }

    private static void eleventh() {
        sound(TEN);
        sound(TEN + " \n ");
        fault(TEN + "k:1;", 3, 40);
        fault(TEN + "  k", 3, 42);
        fault(TEN + "rank", 3, 40);
        fault(TEN + ";", 2, 40);
        fault(TEN + "least", 2, 40);
        fault(TEN + "abcdefghi", 2, 40);
        fault(TEN.substring(0, 39), 2, 39);
        // None of its DEFS is kept.
        PrairiePool x = seller(0);
        Check.acts(x, "breach:5;", 0);
        Check.acts(x, TEN.replace("a:", "breach:") + "k:1;", 0);
        CHECK.due("FAULT", x.fault(0), 3);
        CHECK.due("breach", x.cost(0, 0), 5);
    }

    private static void already() {
        fault("a:1;a:1;", 4, 4);
        fault("a:1;a", 4, 4);
        fault("a:1;b:1;a:1;", 4, 8);
        fault("a:1;b:1;b:1;", 4, 8);
        fault("abcdefgh:1;abcdefgh:1;", 4, 11);
        sound("abcdefgh:1;abcdefgi:1;bbcdefgh:1;");
        String nine = TEN.substring(0, 36);
        fault(nine + "a:1;", 4, 36);
        fault(nine + "i:1;", 4, 36);
        sound(nine + "j:1;");
    }

    private static String nested(String open, int many, String within, String close) {
        return "a:" + open.repeat(many) + within + close.repeat(many) + ";";
    }

    private static void deeper() {
        for (int many = 0; many <= 7; many++) {
            sound(nested("(", many, "1", ")"));
            sound(nested("if 1<2 then 1 else ", many, "1", ""));
            sound(nested("if 1<2 then ", many, "1", " else 1"));
            sound(nested("least(", many, "1", ",1)"));
            sound(nested("most(1,", many, "1", ")"));
        }
        fault(nested("(", 8, "1", ")"), 5, 10);
        fault(nested("if 1<2 then 1 else ", 8, "1", ""), 5, 2 + 7 * 19 + 12);
        fault(nested("if 1<2 then ", 8, "1", " else 1"), 5, 2 + 8 * 12);
        fault(nested("least(", 8, "1", ",1)"), 5, 2 + 8 * 6);
        fault(nested("most(1,", 8, "1", ")"), 5, 2 + 7 * 7 + 5);
    }

    private static void oneDeeper() {
        // Each DEF begins at 1 again, and so does what stands beside.
        sound(nested("(", 7, "1", ")") + nested("(", 7, "a", ")").replace("a:", "b:"));
        sound("a:" + "(".repeat(7) + "1" + ")".repeat(7) + "+" + "(".repeat(7) + "1" + ")".repeat(7) + ";");
        sound("a:" + "(".repeat(7) + "1+2*3-4" + ")".repeat(7) + "*2;");
        // What an if tests is as deep as the if; its WHOLES are deeper.
        String seven = "(".repeat(7);
        fault("a:" + seven + "if 1+1<2*2 and not 3>4 then 1", 5, 37);
        fault("a:" + seven + "if (1)<2", 5, 13);
        fault("a:" + seven + "if least(1", 5, 18);
        String six = "(".repeat(6);
        sound("a:" + six + "if (1)<least(1,2) then 1 else 2" + ")".repeat(6) + ";");
        fault("a:" + six + "if (1)<2 then (1)", 5, 23);
        fault("a:" + six + "if (1)<2 then 1 else (2)", 5, 30);
        fault("a:" + six + "if ((1))<2", 5, 13);
        // A SUM in a FEW, brackets in it and a WHOLE in these.
        sound("a:least(most(least(most(1,2),(3)),4),5);");
        sound("a:(least((most((least((1),2)),3)),4));");
        fault("a:(least((most((least(((1)),2)),3)),4));", 5, 24);
    }

    private static void canBegin() {
        String deep = "a:((((((((";
        for (String word : new String[] {"week", "a", "zz", "abcdefghij", "rank", "x"}) {
            fault(deep + word, 5, 10);
        }
        for (String token : new String[] {"1", "(", "if", "least", "most", "000000"}) {
            fault(deep + token, 5, 10);
            fault(deep + " " + token, 5, 11);
        }
        for (String token : new String[] {"then", "else", "and", "or", "not", ")", "-", "+", "*", "/", "%", ",", ";",
            ":", "<", ">", "=", ""}) {
            fault(deep + token, 2, 10);
        }
        fault(deep + "?", 1, 10);
        // A SUM can't begin with if: not in a FEW.
        String few = "a:" + "least(".repeat(8);
        fault(few + "if", 2, 50);
        fault(few + "1", 5, 50);
        fault(few + "zz", 5, 50);
        fault(few + "most", 5, 50);
        fault(few + "not", 2, 50);
        fault(few, 2, 50);
        String then = "a:(((((((if 1<2 then ";
        fault(then + "if", 5, 21);
        fault(then + "zz", 5, 21);
        fault(then + "else", 2, 21);
    }

    private static void noneOfThese() {
        fault("a:zz;", 6, 2);
        fault("a:1+zz;", 6, 4);
        fault("a:1*zz;", 6, 4);
        fault("a:(zz);", 6, 3);
        fault("a:least(zz,1);", 6, 8);
        fault("a:least(1,zz);", 6, 10);
        fault("a:if zz<1 then 1 else 2;", 6, 5);
        fault("a:if 1<zz then 1 else 2;", 6, 7);
        fault("a:if not zz<1 then 1 else 2;", 6, 9);
        fault("a:if 1<2 and zz<1 then 1 else 2;", 6, 13);
        fault("a:if 1<2 then zz else 2;", 6, 14);
        fault("a:if 1<2 then 1 else zz;", 6, 21);
        fault("a:abcdefghi;", 6, 2);
        fault("a:(((((((zz", 6, 9);
        for (String word : new String[] {"then", "else", "and", "or", "not"}) {
            fault("a:" + word + ";", 2, 2);
            fault("a:1+" + word + ";", 2, 4);
            fault("a:if " + (word.equals("not") ? "not not" : word) + " 1<2", 2, word.equals("not") ? 9 : 5);
        }
        fault("a:1+if;", 2, 4);
        fault("a:if if;", 2, 5);
        // Where no ATOM must begin it is 2.
        fault("a:1 zz;", 2, 4);
        fault("a zz;", 2, 2);
        fault("a:(1 zz);", 2, 5);
        fault("a:least zz", 2, 8);
    }

    // ---- NUMBERS

    private static final String GREAT = "a:65536;b:a*a*a*32768;c:b-1;";

    private static void roundOn() {
        breach(GREAT + "breach:if b<0 and c>0 then 5 else 6;", 5);
        breach(GREAT + "breach:if c+1=b then 5 else 6;", 5);
        breach(GREAT + "breach:if b+b=0 then 5 else 6;", 5);
        breach(GREAT + "breach:if 0-b=b then 5 else 6;", 5);
        breach(GREAT + "breach:if c*2=0-2 then 5 else 6;", 5);
        breach(GREAT + "breach:if b*(0-1)=b then 5 else 6;", 5);
        breach(GREAT + "breach:if b<c and not c<b then 5 else 6;", 5);
        breach(GREAT + "breach:if least(b,c)=b and most(b,c)=c then 5 else 6;", 5);
        breach(GREAT + "breach:c;", 1000);
        breach(GREAT + "breach:b;", 0);
        breach(GREAT + "breach:b-1-c+7;", 7);
    }

    private static void asTheMachine() {
        breach("breach:10+(0-7)/2;", 7);
        breach("breach:10+7/(0-2);", 7);
        breach("breach:10+(0-7)/(0-2);", 13);
        breach("breach:10+(0-7)%2;", 9);
        breach("breach:10+7%(0-2);", 11);
        breach("breach:10+(0-7)%(0-2);", 9);
        breach("breach:10+0/7+0%7;", 10);
        breach("breach:7%7+6%7+8%7;", 7);
        breach(GREAT + "breach:if b/(0-1)=b then 5 else 6;", 5);
        breach(GREAT + "breach:if b%(0-1)=0 then 5 else 6;", 5);
        breach(GREAT + "breach:if c/(0-1)=b+1 then 5 else 6;", 5);
        breach(GREAT + "breach:if b/b=1 and c/c=1 and b/c=0-1 then 5 else 6;", 5);
        breach("breach:100/10/5+100/10*5+17%10*3;", 2 + 50 + 21);
    }

    private static void byZero() {
        String[] nones = {"1/0", "1%0", "0/0", "0%0", "1/(1-1)", "5+1/0", "1/0+5", "1/0*0", "0*(1/0)", "1/0-1/0",
            "least(0,1/0)", "least(1/0,0)", "most(9,1%0)", "most(1%0,9)", "5/(1/0)", "(1/0)", "z", "z+1", "least(z,1)",
            "(if 1<2 then 1/0 else 5)", "(if 2<1 then 5 else 1/0)", "5%z", "z%5", "if 1<2 then z else 5", "0/grade"};
        for (String none : nones) {
            // Where breach is none it is 0, where votes are they are 1: so none is told from any number.
            breach("z:1/0;breach:" + none + ";", 0);
            PrairiePool x = new PrairiePool();
            x.farm(0, 2, 0);
            x.farm(0, 1, 0);
            x.vote(0, 1);
            x.vote(1, 0);
            Check.acts(x, "z:1/0;y:" + none + ";votes:if acres=1 then 0 else y;", 0);
            CHECK.due("FAULT of " + none, x.fault(0), 0);
            CHECK.due("votes of " + none + " are 1, more than 0", x.result(0, 0), 1);
            Check.acts(x, "z:1/0;y:" + none + ";votes:if acres=1 then 1 else y;", 0);
            CHECK.due("votes of " + none + " are no more than 1", x.result(0, 0), 0);
        }
        // A DEF with none that is not asked for, and a way that is not gone, are not in it.
        breach("z:1/0;breach:5;", 5);
        breach("breach:5;z:1/0;", 5);
        breach("z:1/0;breach:if 1<2 then 5 else z;", 5);
        breach("z:1/0;breach:if 2<1 then z else 5;", 5);
        breach("breach:if 1<2 then if 2<1 then 1/0 else 5 else 1/0;", 5);
        breach("z:1/0;breach:1+(if 1<2 then 5 else z);", 6);
    }

    private static void oneWithNone() {
        for (String sign : new String[] {"<", ">", "="}) {
            for (String sides : new String[] {"1/0 1", "1 1/0", "1/0 1/0", "0 1%0", "1%0 0", "z 0", "0 z"}) {
                String one = sides.replace(" ", sign);
                breach("z:1/0;breach:if " + one + " then 5 else 6;", 6);
                breach("z:1/0;breach:if not " + one + " then 5 else 6;", 6);
                breach("z:1/0;breach:if 1<2 and " + one + " then 5 else 6;", 6);
                breach("z:1/0;breach:if not " + one + " and 1<2 then 5 else 6;", 6);
                breach("z:1/0;breach:if 1<2 or " + one + " then 5 else 6;", 5);
                breach("z:1/0;breach:if not " + one + " or 2<1 then 5 else 6;", 6);
                breach("z:1/0;y:if " + one + " then 5 else 6;breach:y+1;", 7);
            }
        }
    }

    private static void without() {
        // No TEXT, one without the DEF, one whose DEF is none.
        for (String text : new String[] {null, "a:9;", "rank:1/0;first:1/0;held:1/0;stand:1/0;breach:1/0;turn:1/0;"
                + "votes:1/0;"}) {
            PrairiePool x = seller(0);
            x.elevator(0, 1000000);
            x.load(0, 0, 10, 0, 0, 0);
            x.grading(0, 0, 1, 0);
            x.grading(0, 1, 2, 0);
            x.car(0, 0, 2, 0, 10, 0, 0);
            x.sale(0, 2, 0, 10, 7, 0, 0);
            x.vote(0, 1);
            if (text != null) {
                Check.acts(x, text, 0);
            }
            CHECK.due("rank 0: the latest", x.grade(0, 0), 2);
            CHECK.due("first 0", x.first(0, 0, 0), 0);
            CHECK.due("held 0", x.paid(0, 2, 1, 0), 0);
            CHECK.due("LAST is all", x.last(0, 0, 0), 70);
            CHECK.due("stand 0", x.below(0, 1, 0), 0);
            CHECK.due("breach 0", x.breach(0), 0);
            CHECK.due("turn 0: still a car", turnsAt(x), 1);
            CHECK.due("votes 1", x.result(3, 0), 1);
        }
        // A FARM below, for whom the state does not stand.
        PrairiePool x = seller();
        x.elevator(0, 1000000);
        x.load(0, 0, 10, 0, 0, 0);
        Check.acts(x, "first:3;stand:1/0;", 0);
        CHECK.due("BELOW", x.below(0, 0, 0), 30);
        CHECK.due("stand is none", x.below(0, 1, 0), 0);
    }

    private static int turnsAt(PrairiePool x) {
        x.load(0, 0, 10, 0, 0, 0);
        return x.turns(0, 5, 0);
    }

    private static void notTold() {
        String all = "grade+grader+week+year+bushels+acres+debt+district+cars+waits+price";
        // breach is not told grade, grader, cars, waits; rank, first, votes, turn were asked ahead of it.
        PrairiePool x = seller(130);
        x.elevator(5, 1000000);
        x.load(0, 0, 900, 0, 104, 104);
        x.grading(0, 5, 4, 104);
        Check.acts(x, "rank:" + all + ";first:" + all + ";turn:" + all + ";votes:" + all + ";breach:" + all + ";", 0);
        x.turns(104, 1, 0);
        x.grade(0, 104);
        CHECK.due("breach", x.cost(0, 2), 130 + 2 + 1 + 40 + 500 + 3 + 9);
        x.cost(0, 2);
        CHECK.due("first: GRADE and YEAR", x.first(0, 2, 104), 900 * (4 + 2));
        x.turns(104, 1, 0);
        CHECK.due("first again", x.first(0, 2, 104), 900 * (4 + 2));
        // votes: 40 acres, 500 debt, DISTRICT 3, WEEK 104, YEAR 2: one more in that DISTRICT with as many.
        x.farm(3, 41, 499);
        x.vote(0, 1);
        x.vote(1, 0);
        x.turns(104, 1, 0);
        CHECK.due("votes are alike", x.result(3, 104), 0);
        x.vote(0, 0);
        x.vote(1, 1);
        x.cost(0, 2);
        CHECK.due("votes are alike the other way", x.result(3, 104), 0);
    }

    // ---- what is asked for

    private static int gradeByRanks(String rankOfOne, String rankOfOther) {
        PrairiePool x = seller();
        x.elevator(0, 1000000);
        x.load(0, 0, 10, 0, 0, 0);
        // The first told is of GRADE 1: it counts only if its rank is greater indeed.
        x.grading(0, 0, 1, 0);
        x.grading(0, 1, 2, 0);
        Check.acts(x, "rank:if grader=0 then " + rankOfOne + " else " + rankOfOther + ";", 0);
        CHECK.due("FAULT", x.fault(0), 0);
        return x.grade(0, 0);
    }

    private static void rankBounds() {
        CHECK.due("1,000,000 above 999,999", gradeByRanks("999999+1", "999999"), 1);
        CHECK.due("1,000,001 is cut to 1,000,000", gradeByRanks("999999+2", "999999+1"), 2);
        CHECK.due("1,000,001 is above 999,999", gradeByRanks("999999+2", "999999"), 1);
        CHECK.due("-999,999 above -1,000,000", gradeByRanks("0-999999", "0-999999-1"), 1);
        CHECK.due("-1,000,001 is cut to -1,000,000", gradeByRanks("0-999999-1", "0-999999-2"), 2);
        CHECK.due("far below", gradeByRanks("0-999999*999999", "0-999999*999999*2"), 2);
        CHECK.due("0 above -1", gradeByRanks("0", "0-1"), 1);
        CHECK.due("none is 0: above -1", gradeByRanks("1/0", "0-1"), 1);
        CHECK.due("none is 0: not above 0", gradeByRanks("1/0", "0"), 2);
        CHECK.due("1 above none", gradeByRanks("1", "1/0"), 1);
        CHECK.due("a lesser one told later", gradeByRanks("2", "1"), 1);
        CHECK.due("a greater one told later", gradeByRanks("1", "2"), 2);
        // NET, not what was weighed; DISTRICT of the FARM, not of the ELEVATOR.
        CHECK.due("bushels", gradeByRanks("bushels-9", "0"), 1);
        CHECK.due("bushels", gradeByRanks("bushels-10", "0"), 2);
        CHECK.due("DISTRICT 3", gradeByRanks("district-2", "0"), 1);
        CHECK.due("DISTRICT 3", gradeByRanks("district-3", "0"), 2);
    }

    private static void rankInItsWeek() {
        // A LOAD of WEEK 51, KNOWN by 60 and graded in 70: of two GRADINGS that of GRADE 1 is told first.
        for (int from = 50; from <= 52; from++) {
            PrairiePool x = seller();
            x.elevator(0, 1000000);
            x.load(0, 0, 1000, 100, 51, 60);
            x.grading(0, 4, 1, 70);
            x.grading(0, 2, 3, 70);
            Check.acts(x, "rank:grader;", from);
            CHECK.due("by the TEXT from " + from + " on", x.grade(0, 70), from <= 51 ? 1 : 3);
            Check.acts(x, "rank:if week=51 and year=0 then 0-grader else 9;", 0);
            CHECK.due("the TEXT that began latest", x.grade(0, 70), from <= 51 ? 1 : 3);
        }
        String[] told = {"week=51", "year=0", "bushels=900", "district=3", "acres=0", "debt=0", "cars=0", "waits=0",
            "price=0", "grader=4", "grade=1"};
        for (String one : told) {
            PrairiePool x = seller();
            x.elevator(5, 1000000);
            x.load(0, 0, 1000, 100, 51, 60);
            x.grading(0, 4, 1, 70);
            x.grading(0, 2, 3, 70);
            Check.acts(x, "rank:if not grader=4 then 0 else if " + one + " then 1 else 0;", 0);
            CHECK.due("told is " + one, x.grade(0, 70), 1);
        }
    }

    private static PrairiePool brought(int bushels, int week) {
        PrairiePool x = seller();
        x.elevator(0, 1000000);
        x.load(0, 0, bushels, 0, week, week);
        return x;
    }

    private static void firstBounds() {
        long[][] rows = {{-1, 0}, {0, 0}, {1, 1}, {999, 999}, {1000, 1000}, {1001, 1000}, {999999, 1000}};
        for (long[] row : rows) {
            PrairiePool x = brought(1, 0);
            Check.acts(x, "first:" + (row[0] < 0 ? "0-" + -row[0] : row[0]) + ";", 0);
            CHECK.due("first " + row[0], x.first(0, 0, 0), row[1]);
        }
        // In the last WEEK of the YEAR: that of YEAR 1 is 103.
        for (int from = 102; from <= 104; from++) {
            PrairiePool x = brought(1, 52);
            Check.acts(x, "first:5;held:5;stand:5;", from);
            CHECK.due("in force from " + from, x.first(0, 1, 52), from <= 103 ? 5 : 0);
        }
        PrairiePool x = brought(1, 519);
        Check.acts(x, "first:5+year;", 519);
        CHECK.due("the last WEEK of all", x.first(0, 9, 519), 14);
    }

    private static void heldBounds() {
        long[][] rows = {{-1, 0}, {0, 0}, {1, 9}, {999, 8999}, {1000, 9009}, {1001, 9009}, {999999, 9009}};
        for (long[] row : rows) {
            PrairiePool x = brought(1001, 0);
            x.car(0, 0, 5, 0, 1001, 0, 0);
            x.sale(0, 5, 0, 1001, 9, 0, 0);
            Check.acts(x, "held:" + (row[0] < 0 ? "0-" + -row[0] : row[0]) + ";", 0);
            CHECK.due("held " + row[0], x.paid(0, 5, 1, 0), row[1]);
            CHECK.due("LAST with held " + row[0], x.last(0, 0, 0), 9009 - row[1]);
        }
        for (int from = 50; from <= 52; from++) {
            PrairiePool x = brought(1000, 0);
            x.car(0, 0, 5, 0, 1000, 0, 0);
            x.sale(0, 5, 0, 1000, 1, 0, 0);
            Check.acts(x, "held:7+grade+year;", from);
            CHECK.due("in force from " + from, x.paid(0, 5, 1, 0), from <= 51 ? 12 : 0);
        }
    }

    private static void standBounds() {
        long[][] rows = {{-1, 0}, {0, 0}, {1, 1}, {999, 1997}, {1000, 1999}, {1001, 1999}, {999999, 1999}};
        for (long[] row : rows) {
            PrairiePool x = brought(1999, 0);
            Check.acts(x, "first:1;stand:" + (row[0] < 0 ? "0-" + -row[0] : row[0]) + ";", 0);
            CHECK.due("BELOW", x.below(0, 0, 0), 1999);
            CHECK.due("stand " + row[0], x.below(0, 1, 0), row[1]);
            CHECK.due("OWED", x.owed(0, 0, 0), 1999 - row[1]);
        }
        PrairiePool x = brought(1000, 60);
        Check.acts(x, "first:1;stand:7+year+grade+week+acres;", 103);
        CHECK.due("told the YEAR alone", x.below(1, 1, 60), 8);
    }

    private static void breachBounds() {
        breach("breach:0-1;", 0);
        breach("breach:0;", 0);
        breach("breach:1;", 1);
        breach("breach:999;", 999);
        breach("breach:1000;", 1000);
        breach("breach:1001;", 1000);
        breach("breach:999999;", 1000);
        breach("breach:1/0;", 0);
        breach("first:5;", 0);
        breach("breach:week;", 130);
        breach("breach:year;", 2);
        breach("breach:acres;", 40);
        breach("breach:debt;", 500);
        breach("breach:district;", 3);
        breach("breach:bushels;", 1);
        breach("breach:price;", 9);
        for (String word : new String[] {"grade", "grader", "cars", "waits"}) {
            breach("breach:" + word + ";", 0);
            breach("breach:1+" + word + ";", 1);
        }
    }

    // Two ELEVATORS in DISTRICTS 0 and 1, and one car: the second gets it only if its turn is greater.
    private static boolean isSecondNext(String first, String second) {
        PrairiePool x = seller();
        x.elevator(0, 1000000);
        x.elevator(1, 1000000);
        x.load(0, 0, 10, 0, 0, 0);
        x.load(0, 1, 10, 0, 0, 0);
        Check.acts(x, "turn:if district=0 then " + first + " else " + second + ";", 0);
        CHECK.due("FAULT", x.fault(0), 0);
        CHECK.due("one car", x.turns(0, 1, 0) + x.turns(0, 1, 1), 1);
        return x.turns(0, 1, 1) == 1;
    }

    private static void turnBounds() {
        CHECK.due("like ones", isSecondNext("5", "5"), false);
        CHECK.due("greater", isSecondNext("5", "6"), true);
        CHECK.due("1,000,000 above 999,999", isSecondNext("999999", "999999+1"), true);
        CHECK.due("1,000,001 is cut to 1,000,000", isSecondNext("999999+1", "999999+2"), false);
        CHECK.due("-999,999 above -1,000,000", isSecondNext("0-999999-1", "0-999999"), true);
        CHECK.due("-1,000,001 is cut to -1,000,000", isSecondNext("0-999999-2", "0-999999-1"), false);
        CHECK.due("none is 0: above -1", isSecondNext("0-1", "1/0"), true);
        CHECK.due("none is 0: not above 0", isSecondNext("0", "1/0"), false);
        CHECK.due("1 above none", isSecondNext("1/0", "1"), true);
    }

    // One FARM for and one against, in one DISTRICT.
    private static boolean isFor(String votesFor, String votesAgainst) {
        PrairiePool x = new PrairiePool();
        x.farm(0, 1, 0);
        x.farm(0, 2, 0);
        x.vote(0, 1);
        x.vote(1, 0);
        Check.acts(x, "votes:if acres=1 then " + votesFor + " else " + votesAgainst + ";", 0);
        CHECK.due("FAULT", x.fault(0), 0);
        return x.result(0, 0) == 1;
    }

    private static void voteBounds() {
        CHECK.due("1,000 above 999", isFor("1000", "999"), true);
        CHECK.due("1,001 is cut to 1,000", isFor("1001", "1000"), false);
        CHECK.due("1,001 above 999", isFor("1001", "999"), true);
        CHECK.due("0 above -1, which is cut to 0", isFor("0", "0-1"), false);
        CHECK.due("1 above 0", isFor("1", "0"), true);
        CHECK.due("1 above -5", isFor("1", "0-5"), true);
        CHECK.due("none is 1: above 0", isFor("1/0", "0"), true);
        CHECK.due("none is 1: not above 1", isFor("1/0", "1"), false);
        CHECK.due("2 above none", isFor("2", "1/0"), true);
        CHECK.due("1 not above none", isFor("1", "1/0"), false);
        PrairiePool x = new PrairiePool();
        x.farm(0, 1, 0);
        x.vote(0, 1);
        CHECK.due("without a TEXT 1", x.result(0, 0), 1);
        Check.acts(x, "votes:0;", 260);
        CHECK.due("in the WEEK ahead 1", x.result(0, 259), 1);
        CHECK.due("in its WEEK 0", x.result(0, 260), 0);
    }
}
