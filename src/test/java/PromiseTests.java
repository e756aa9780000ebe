/** Promise by promise: ordinary inputs, the edges that the document names, wrong inputs; worked out by hand. */
public final class PromiseTests {
    private static final int BEYOND = -1000000001;
    private static final int NONE = -1000000002;
    private static final int STATE = -1000000003;
    private static final int FULL = -1000000004;
    private static final int KIND = -1000000005;
    private static final int PARTED = -1000000006;
    private static int wrong = 0;
    private static int promise = 0;

    private static void due(String call, int got, int want) {
        if (got != want) {
            wrong++;
            System.out.println("promise " + promise + ": " + call + " answered " + got + ", due is " + want);
        }
    }

    /** Feeds a text, as many words as it takes. */
    private static void write(LionSigns x, String text) {
        for (int i = 0; i < text.length(); i += 8) {
            int n = Math.min(8, text.length() - i);
            long word = 0;
            for (int j = 0; j < n; j++) {
                word |= (long) text.charAt(i + j) << 8 * j;
            }
            x.feed(word, n);
        }
    }

    private static int read(LionSigns x, int use, String text) {
        write(x, text);
        return x.text(use);
    }

    private static void text(int use, String text, int want) {
        due("text(" + use + ") of " + text, read(new LionSigns(), use, text), want);
    }

    /** What a TEXT of TURN gives with b, e, y as 7, 2, -5, less 0 .. 30 it is held within. */
    private static void value(String text, int want) {
        LionSigns x = new LionSigns();
        due("text(0) of " + text, read(x, 0, text), 1);
        due("law of " + text, x.law(0, 7, 2, -5), want);
    }

    private static String times(String text, int n) {
        StringBuilder all = new StringBuilder();
        for (int i = 0; i < n; i++) {
            all.append(text);
        }
        return all.toString();
    }

    private static LionSigns withReaders(int... kms) {
        LionSigns x = new LionSigns();
        for (int km : kms) {
            x.reader(km);
        }
        return x;
    }

    private static void newObject() {
        promise = 1;
        LionSigns x = new LionSigns();
        int[] counts = {0, 0, 0, 0, 0, 0, 0, 0, 0, 1};
        for (int i = 0; i < counts.length; i++) {
            due("count(" + i + ")", x.count(i), counts[i]);
        }
        for (int k = 1; k <= 6; k++) {
            due("told(" + k + ")", x.told(k), 0);
        }
        for (int place = 0; place < 6; place++) {
            due("happens(" + place + ", 0)", x.happens(place, 0), 1 << place);
        }
        due("untell(0)", x.untell(0), 0);
        due("untell(1)", x.untell(1), 0);
        due("restore()", x.restore(), NONE);
        due("readerIs(0, 0)", x.readerIs(0, 0), BEYOND);
        for (int sheet = 0; sheet < 4; sheet++) {
            due("judge(" + sheet + ")", x.judge(sheet), NONE);
        }
    }

    private static void reader() {
        promise = 2;
        LionSigns x = new LionSigns();
        due("reader(-1)", x.reader(-1), BEYOND);
        due("reader(70)", x.reader(70), BEYOND);
        due("count(0)", x.count(0), 0);
        for (int i = 0; i < 6; i++) {
            due("reader(" + 11 * i + ")", x.reader(11 * i), i);
            due("readerIs(" + i + ", 0)", x.readerIs(i, 0), i);
            due("readerIs(" + i + ", 1)", x.readerIs(i, 1), i);
            due("readerIs(" + i + ", 2)", x.readerIs(i, 2), 0);
        }
        due("reader(69)", x.reader(69), FULL);
        due("reader(70)", x.reader(70), BEYOND);
        due("count(0)", x.count(0), 6);
        due("reader(69)", new LionSigns().reader(69), 0);
    }

    private static void readerIs() {
        promise = 3;
        LionSigns x = withReaders(3, 14, 25, 36, 47, 58);
        x.jawed(0, 1);
        x.marked(3, 77);
        due("readerIs(4, 0)", x.readerIs(4, 0), 4);
        due("readerIs(4, 1)", x.readerIs(4, 1), 7);
        due("readerIs(3, 2)", x.readerIs(3, 2), 77);
        // GAZER by m 3, SCHOLAR by YEAR 0, DEPUTY by m 5, CHILD by JAWS 1 and 0, ENEMY by YEAR 0, CLERK by m 8.
        int[] looks = {1, 0, 0, 1, 1, 1};
        for (int i = 0; i < 6; i++) {
            due("readerIs(" + i + ", 3)", x.readerIs(i, 3), looks[i]);
        }
        x.year(7);
        x.jawed(1, 1);
        due("readerIs(1, 3) in YEAR 7", x.readerIs(1, 3), 1);
        due("readerIs(4, 3) in YEAR 7", x.readerIs(4, 3), 0);
        due("readerIs(3, 3) by JAWS alike", x.readerIs(3, 3), 0);
        int[][] deputies = {{24, 0}, {23, 1}, {25, 0}, {26, 1}, {54, 0}, {53, 1}, {55, 0}, {59, 0}, {69, 0}, {61, 0}};
        for (int[] one : deputies) {
            x.become(0, one[0]);
            due("readerIs(0, 3) of " + one[0], x.readerIs(0, 3), one[1]);
        }
        due("readerIs(6, 0)", x.readerIs(6, 0), BEYOND);
        due("readerIs(-1, 0)", x.readerIs(-1, 0), BEYOND);
        due("readerIs(0, 4)", x.readerIs(0, 4), BEYOND);
        due("readerIs(0, -1)", x.readerIs(0, -1), BEYOND);
    }

    private static void become() {
        promise = 4;
        LionSigns x = withReaders(14);
        x.marked(0, 9);
        due("become(0, 69)", x.become(0, 69), 1);
        due("readerIs(0, 0)", x.readerIs(0, 0), 6);
        due("readerIs(0, 1)", x.readerIs(0, 1), 9);
        due("readerIs(0, 2)", x.readerIs(0, 2), 9);
        due("become(0, 70)", x.become(0, 70), BEYOND);
        due("become(0, -1)", x.become(0, -1), BEYOND);
        due("become(1, 0)", x.become(1, 0), BEYOND);
        due("become(-1, 0)", x.become(-1, 0), BEYOND);
        due("become(0, 0)", x.become(0, 0), 6);
    }

    private static void as() {
        promise = 5;
        boolean[][] under = {
            {true, false, false, false, false, false, false},
            {true, true, false, false, false, false, false},
            {true, false, true, false, false, false, false},
            {true, false, false, true, false, false, false},
            {true, true, false, false, true, false, false},
            {true, false, true, false, false, true, false},
            {true, false, false, false, false, false, true},
        };
        LionSigns x = withReaders(0);
        for (int kind = 0; kind < 7; kind++) {
            x.become(0, 10 * kind + 5);
            for (int other = 0; other < 7; other++) {
                due("as(0, " + other + ") of KIND " + kind, x.as(0, other), under[kind][other] ? 5 : KIND);
            }
        }
        due("as(0, 7)", x.as(0, 7), BEYOND);
        due("as(0, -1)", x.as(0, -1), BEYOND);
        due("as(1, 0)", x.as(1, 0), BEYOND);
        due("as(-1, 0)", x.as(-1, 0), BEYOND);
    }

    private static void marked() {
        promise = 6;
        LionSigns x = withReaders(0, 0);
        due("marked(1, 9999)", x.marked(1, 9999), 0);
        due("marked(1, 10000)", x.marked(1, 10000), BEYOND);
        due("marked(1, -1)", x.marked(1, -1), BEYOND);
        due("marked(2, 0)", x.marked(2, 0), BEYOND);
        due("marked(-1, 0)", x.marked(-1, 0), BEYOND);
        due("marked(1, 0)", x.marked(1, 0), 9999);
        due("readerIs(1, 2)", x.readerIs(1, 2), 0);
    }

    private static void knows() {
        promise = 7;
        LionSigns x = new LionSigns();
        due("knows(255)", x.knows(255), 0);
        due("knows(256)", x.knows(256), BEYOND);
        due("knows(-1)", x.knows(-1), BEYOND);
        due("count(2)", x.count(2), 255);
        due("knows(0)", x.knows(0), 255);
    }

    private static void jawed() {
        promise = 8;
        LionSigns x = new LionSigns();
        due("jawed(0, 359)", x.jawed(0, 359), 0);
        due("jawed(1, 7)", x.jawed(1, 7), 0);
        due("jawed(0, 360)", x.jawed(0, 360), BEYOND);
        due("jawed(0, -1)", x.jawed(0, -1), BEYOND);
        due("jawed(2, 0)", x.jawed(2, 0), BEYOND);
        due("jawed(-1, 0)", x.jawed(-1, 0), BEYOND);
        due("count(3)", x.count(3), 359);
        due("count(4)", x.count(4), 7);
        due("jawed(1, 0)", x.jawed(1, 0), 7);
    }

    private static void happens() {
        promise = 9;
        LionSigns x = new LionSigns();
        due("happens(5, 255)", x.happens(5, 255), 32);
        due("happens(5, 256)", x.happens(5, 256), BEYOND);
        due("happens(5, -1)", x.happens(5, -1), BEYOND);
        due("happens(6, 0)", x.happens(6, 0), BEYOND);
        due("happens(-1, 0)", x.happens(-1, 0), BEYOND);
        due("happens(5, 0)", x.happens(5, 0), 255);
        x.happens(0, 255);
        x.years(1);
        due("count(4)", x.count(4), 8);
    }

    private static void sign() {
        promise = 10;
        LionSigns x = new LionSigns();
        x.knows(0xA5);
        due("sign(0, 255)", x.sign(0, 255), 4);
        due("sign(1, 255)", x.sign(1, 255), 4);
        due("sign(0, 7)", x.sign(0, 7), 2);
        due("sign(1, 7)", x.sign(1, 7), 1);
        due("sign(0, 0)", x.sign(0, 0), 0);
        due("sign(0, 256)", x.sign(0, 256), BEYOND);
        due("sign(0, -1)", x.sign(0, -1), BEYOND);
        due("sign(2, 0)", x.sign(2, 0), BEYOND);
        due("sign(-1, 0)", x.sign(-1, 0), BEYOND);
        // b 2, e 7, y 3
        read(x, 0, "b+e*2+y");
        x.year(11);
        due("sign(0, 0x47) by a TEXT", x.sign(0, 0x47), 19);
        read(x, 0, "0-1");
        due("sign below 0", x.sign(0, 7), 0);
        read(x, 0, "31");
        due("sign above 30", x.sign(0, 7), 30);
        due("count(3)", x.count(3), 0);
    }

    private static void feed() {
        promise = 11;
        LionSigns x = new LionSigns();
        due("feed(0, 0)", x.feed(0, 0), BEYOND);
        due("feed(0, 9)", x.feed(0, 9), BEYOND);
        due("feed(0, -1)", x.feed(0, -1), BEYOND);
        // "e*2" lies lowest, the byte above it doesn't come.
        due("feed(e*2, 3)", x.feed(0x40322A65L, 3), 3);
        due("text(0)", x.text(0), 1);
        due("law", x.law(0, 0, 9, 0), 18);
        due("feed(.., 8)", x.feed(0x2B312B312B312B31L, 8), 8);
        due("feed(.., 1)", x.feed('1', 1), 9);
        due("text(0)", x.text(0), 1);
        due("law", x.law(0, 0, 0, 0), 5);
        for (int i = 1; i <= 7; i++) {
            due("feed(-1, 8)", x.feed(-1L, 8), 8 * i);
        }
        due("feed(-1, 5)", x.feed(-1L, 5), FULL);
        due("feed(-1, 9)", x.feed(-1L, 9), BEYOND);
        due("feed(-1, 4)", x.feed(-1L, 4), 60);
        due("feed(-1, 1)", x.feed(-1L, 1), FULL);
        due("count(6)", x.count(6), 60);
    }

    private static void textFaults() {
        promise = 12;
        text(0, "", -10);
        text(0, "b", 1);
        text(0, "r", -10);
        text(1, "b", -10);
        text(1, "r+j*y", 1);
        text(0, "b+e*y", 1);
        text(0, "b+j", -12);
        text(0, "1234", 1);
        text(0, "0000", 1);
        text(0, "12345", -14);
        text(0, "1b", -11);
        text(0, "b1", -11);
        text(0, "b e", -11);
        text(0, "b+", -12);
        text(0, "-b", -10);
        text(0, "b<e<y", -13);
        text(0, "b=e>y", -13);
        text(0, "b<(e<y)", 1);
        text(0, "(b<e)<y", 1);
        text(0, "b<e&e<y|y=1", 1);
        text(0, "b+e<y-1", 1);
        text(0, "(b", -12);
        text(0, "(b))", -13);
        text(0, "()", -11);
        text(0, ")", -10);
        text(0, "b!", -11);
        text(0, "!", -11);
        text(0, "!!!!!b", 1);
        text(0, "!!!!!!b", -15);
        text(0, "(((((b)))))", 1);
        text(0, "((((((b", -15);
        text(0, "!(!(!b))", 1);
        text(0, "!(!(!!b))", -15);
        text(0, "(((((b)))))+(((((b)))))", 1);
        text(0, "!!!!!b+!!!!!b", 1);
        text(0, "((((!(b", -15);
        text(0, "((((!b+!b", -19);
        text(0, "b\u0000", -11);
        text(0, "\u00e2", -10);
        text(0, times("b+", 29) + "bb", -69);
        text(0, times("b+", 30), -70);
        text(0, times("b+", 29) + "b", 1);
        LionSigns x = new LionSigns();
        due("text of 3", read(x, 0, "3"), 1);
        due("text with a FAULT", read(x, 0, "4+"), -12);
        due("count(6)", x.count(6), 0);
        due("law", x.law(0, 9, 9, 9), 3);
        for (int i = 0; i < 3; i++) {
            read(x, 0, times("b+", 29) + "b");
        }
        due("law of the longest", x.law(0, 1, 9, 9), 30);
        due("text of 5", read(x, 0, "5"), 1);
        due("law", x.law(0, 9, 9, 9), 5);
        due("text of USE 1", read(x, 1, "7"), 1);
        due("law of USE 0", x.law(0, 9, 9, 9), 5);
        due("law of USE 1", x.law(1, 9, 9, 9), 7);
        write(x, "8");
        due("text(2)", x.text(2), BEYOND);
        due("text(-1)", x.text(-1), BEYOND);
        due("count(6)", x.count(6), 1);
        due("text(0)", x.text(0), 1);
        due("law", x.law(0, 9, 9, 9), 8);
        due("sign", x.sign(0, 9), 8);
        for (int k = 2; k <= 6; k++) {
            due("told(" + k + ")", x.told(k), 0);
        }
        textValues();
    }

    private static void textValues() {
        value("b+e-y", 14);
        value("y", 0);
        value("0-y", 5);
        value("b-e-1", 4);
        value("b*e+1", 15);
        value("1+b*e", 15);
        value("30/b*e", 8);
        value("b/0", 0);
        value("1+b/0", 1);
        value("1+b%0", 1);
        value("b%4", 3);
        value("0-y/2", 2);
        value("3+y%3", 1);
        value("b<e", 0);
        value("e<b", 1);
        value("b>e", 1);
        value("b<b", 0);
        value("b>b", 0);
        value("e>b", 0);
        value("b=7", 1);
        value("b=e", 0);
        value("b&e", 1);
        value("b&0", 0);
        value("0&b", 0);
        value("0|b", 1);
        value("b|0", 1);
        value("0|0", 0);
        value("1|0&0", 1);
        value("(1|0)&0", 0);
        value("!b", 0);
        value("!0", 1);
        value("!!b", 1);
        value("!b+9", 9);
        value("!(b+9)", 0);
        value("2*(b+e)", 18);
        value("e+1<b-1", 1);
        value("2<1+2", 1);
        value("9999*9999*9999*9999=9999*9999*(9999*9999)", 1);
        // 65536 * 32768 wraps to the least int; it is held at 0, and one less is held at 30.
        value("256*256*256*128", 0);
        value("256*256*256*128-1", 30);
        value("256*256*256*128/(0-1)<0", 1);
        value("5+256*256*256*128%(0-1)", 5);
    }

    private static void untell() {
        promise = 13;
        LionSigns x = new LionSigns();
        due("untell(0)", x.untell(0), 0);
        read(x, 0, "30");
        read(x, 1, "9");
        due("law", x.law(0, 1, 1, 1), 30);
        due("sign", x.sign(0, 1), 30);
        due("untell(0)", x.untell(0), 1);
        due("untell(0)", x.untell(0), 0);
        due("law", x.law(0, 1, 1, 1), 1);
        due("sign", x.sign(0, 1), 0);
        due("law", x.law(1, 1, 1, 1), 9);
        due("untell(1)", x.untell(1), 1);
        due("law", x.law(1, 1, 1, 1), 1);
        due("untell(2)", x.untell(2), BEYOND);
        due("untell(-1)", x.untell(-1), BEYOND);
    }

    private static void law() {
        promise = 14;
        LionSigns x = new LionSigns();
        due("law(0, 31, ..)", x.law(0, 31, 5, 5), 30);
        due("law(1, 41, ..)", x.law(1, 41, 5, 5), 40);
        due("law(1, 31, ..)", x.law(1, 31, 5, 5), 31);
        due("law(0, -1, ..)", x.law(0, -1, 5, 5), 0);
        due("law(1, min, ..)", x.law(1, Integer.MIN_VALUE, 5, 5), 0);
        read(x, 0, "b-e*y");
        read(x, 1, "r-j*y");
        due("law(0, 20, 3, 4)", x.law(0, 20, 3, 4), 8);
        due("law(1, 70, 9, 7)", x.law(1, 70, 9, 7), 7);
        due("law(0, max, -1, 1) wraps", x.law(0, Integer.MAX_VALUE, -1, 1), 0);
        due("law(0, 5, -100, 1)", x.law(0, 5, -100, 1), 30);
        // Beside one another, these may not be taken for one and the same.
        read(x, 0, "b+e*2+y*3");
        read(x, 1, "r+j*2+y*3");
        int[][] asked = {{9, 0, 0}, {0, 1, 0}, {0, 16, 0}, {0, 0, 1}, {0, 0, 8}, {65, 0, 0}, {66, 0, 0}, {0, 10, 0}, {0, 0, 0}};
        for (int round = 0; round < 2; round++) {
            for (int[] one : asked) {
                int sum = one[0] + 2 * one[1] + 3 * one[2];
                due("law(0, " + one[0] + ", ..)", x.law(0, one[0], one[1], one[2]), Math.min(30, sum));
                due("law(1, " + one[0] + ", ..)", x.law(1, one[0], one[1], one[2]), Math.min(40, sum));
            }
        }
        due("law(2, ..)", x.law(2, 0, 0, 0), BEYOND);
        due("law(-1, ..)", x.law(-1, 0, 0, 0), BEYOND);
    }

    private static void years() {
        promise = 15;
        LionSigns x = withReaders(0, 15, 26, 31, 47, 58, 0);
        x.knows(255);
        for (int place = 0; place < 6; place++) {
            x.happens(place, 15);
        }
        // In YEAR 0: JAWS 4, 0. GAZER 4; SCHOLAR 8 + 1; DEPUTY (26: LION 1) 0 + 6; CHILD (JAW 0 is more) 0;
        // ENEMY (LION 1) 0 + 0 + 3; CLERK (58: LION 1) 8 / 2 + 6.
        due("years(1)", x.years(1), 4 + 9 + 6 + 0 + 3 + 10);
        int[] marks = {4, 9, 6, 0, 3, 10};
        for (int i = 0; i < 6; i++) {
            due("MARKS of " + i, x.readerIs(i, 2), marks[i]);
        }
        due("YEAR", x.count(1), 1);
        due("JAW of LION 0", x.count(3), 4);
        due("JAW of LION 1", x.count(4), 0);
        // In YEAR 1 SCHOLAR looks at LION 1, ENEMY at LION 0, whose JAW is 8: 8 + 2 + 3.
        due("years(1)", x.years(1), 32 + 4 + 0 + 6 + 0 + 13 + 10);
        x.jawed(0, 358);
        x.years(1);
        due("JAW round", x.count(3), 2);
        edgesOfYears();
        readings();
    }

    /** What each KIND reads in YEAR 1, one of two READERS, by TURNS 5 and 3 and JAWS 17 and 7 (or 5 and 7). */
    private static void readings() {
        int[][] all = {
            {0, 5}, {1, 3}, {5, 3},
            {10, 7}, {19, 7},
            {20, 5}, {23, 6}, {25, 10}, {26, 9},
            {30, 1}, {39, 1},
            {40, 15}, {49, 15},
            {50, 4}, {51, 4}, {55, 7}, {56, 6},
            {60, 0}, {68, 0}, {69, 5},
        };
        for (int[] one : all) {
            due("READS of " + one[0], readsIn(12, one[0]), one[1]);
        }
        due("READS of a CHILD by JAWS 5 and 7", readsIn(0, 30), 1);
        due("READS of an ENEMY by JAWS 5 and 7", readsIn(0, 40), 15);
    }

    private static int readsIn(int jaw, int km) {
        LionSigns x = withReaders(60, km);
        x.year(1);
        x.knows(0x1F);
        x.happens(1, 255);
        x.jawed(0, jaw);
        x.jawed(1, 4);
        due("years(1)", x.years(1), x.readerIs(1, 2));
        due("JAW of LION 0", x.count(3), jaw + 5);
        due("JAW of LION 1", x.count(4), 7);
        return x.readerIs(1, 2);
    }

    private static void edgesOfYears() {
        LionSigns x = withReaders(0, 69, 61);
        x.knows(255);
        x.happens(1, 255);
        x.year(7);
        x.marked(0, 9998);
        due("years(1) from YEAR 7: place 1", x.years(1), 9999 + 8 + 0);
        due("years(0)", x.years(0), BEYOND);
        due("years(61)", x.years(61), BEYOND);
        due("years(-1)", x.years(-1), BEYOND);
        x.year(9939);
        due("years(60) up to YEAR 9999", x.years(60) >= 0 ? 1 : 0, 1);
        due("YEAR", x.count(1), 9999);
        due("years(1)", x.years(1), STATE);
        due("years(61)", x.years(61), BEYOND);
        x.year(9940);
        due("years(60)", x.years(60), STATE);
        due("YEAR", x.count(1), 9940);
        LionSigns y = withReaders(1);
        y.happens(0, 255);
        y.jawed(1, 8);
        y.year(12);
        read(y, 1, "r*100+j*10+y");
        due("years(1) beyond 40", y.years(1), 40);
        read(y, 1, "j*10+y");
        y.year(12);
        y.jawed(1, 355);
        // JAW 355 + 8 is 3; y is 4.
        due("years(1) by j and y", y.years(1), 40 + 34);
    }

    /** The z that the next draw makes into this one: the draw undone, with what 1103515245 is times 1 by. */
    private static int seedFor(int z) {
        int inverse = 1;
        for (int i = 0; i < 5; i++) {
            inverse *= 2 - 1103515245 * inverse;
        }
        return (z - 12345) * inverse;
    }

    private static void loose() {
        promise = 16;
        LionSigns x = withReaders(0);
        x.knows(255);
        // 1103527590 >>> 8 is 4310654: its rest by 256 is 126, six bits.
        due("loose(1)", x.loose(1), 6);
        due("z", x.count(9), 1103527590);
        due("YEAR", x.count(1), 1);
        due("happens(0, 1)", x.happens(0, 1), 1);
        x.loose(1);
        due("z", x.count(9), 1103527590 * 1103515245 + 12345);
        // z becomes 0xFFABCDEF: the EVENT is 0xCD, which has all bits of 0x0D.
        x.seed(seedFor(0xFFABCDEF));
        x.knows(0x0D);
        int marks = x.count(5);
        due("loose(1) by 0xCD", x.loose(1), marks + 3);
        due("z", x.count(9), 0xFFABCDEF);
        x.seed(seedFor(0x00E1FE00));
        x.knows(0x01);
        due("loose(1) by 0xFE", x.loose(1), marks + 3);
        x.seed(-1103527590);
        x.loose(1);
        due("z", x.count(9), -1103527590 * 1103515245 + 12345);
        due("loose(0)", x.loose(0), BEYOND);
        due("loose(31)", x.loose(31), BEYOND);
        due("loose(-1)", x.loose(-1), BEYOND);
        x.year(9969);
        due("loose(30)", x.loose(30) >= 0 ? 1 : 0, 1);
        int z = x.count(9);
        due("loose(1)", x.loose(1), STATE);
        due("loose(31)", x.loose(31), BEYOND);
        x.year(9970);
        due("loose(30)", x.loose(30), STATE);
        due("z", x.count(9), z);
    }

    private static void year() {
        promise = 17;
        LionSigns x = new LionSigns();
        due("year(9999)", x.year(9999), 0);
        due("year(10000)", x.year(10000), BEYOND);
        due("year(-1)", x.year(-1), BEYOND);
        due("year(0)", x.year(0), 9999);
        due("count(1)", x.count(1), 0);
    }

    private static void seed() {
        promise = 18;
        LionSigns x = new LionSigns();
        due("seed(-1000000001)", x.seed(-1000000001), 1);
        due("seed(min)", x.seed(Integer.MIN_VALUE), -1000000001);
        due("count(9)", x.count(9), Integer.MIN_VALUE);
        due("told(1)", x.told(1), 0);
    }

    private static void then() {
        promise = 19;
        LionSigns x = withReaders(0);
        x.knows(3);
        due("then(0, 0)", x.then(0, 0), 0);
        due("then(0, 2)", x.then(0, 2), 2);
        due("then(0, 6)", x.then(0, 6), 2);
        due("then(1, 6)", x.then(1, 6), 4);
        due("then(1, 60)", x.then(1, 60), 40);
        due("then(0, 61)", x.then(0, 61), BEYOND);
        due("then(0, -1)", x.then(0, -1), BEYOND);
        due("then(2, 0)", x.then(2, 0), BEYOND);
        due("then(-1, 0)", x.then(-1, 0), BEYOND);
        x.jawed(1, 359);
        x.year(9999);
        // YEARS 9999, 10000, .. have the EVENTS in places 3, 4, 5, 0: LION 1 turns by three of them.
        due("then(1, 4) beyond YEAR 9999", x.then(1, 4), 2);
        due("count(1)", x.count(1), 9999);
        due("count(4)", x.count(4), 359);
        due("count(5)", x.count(5), 0);
        read(x, 0, "y");
        x.jawed(0, 0);
        // y is 7, 0, 1.
        due("then(0, 3) by y", x.then(0, 3), 8);
    }

    private static void marksThen() {
        promise = 20;
        LionSigns x = withReaders(0, 14);
        x.knows(3);
        x.marked(0, 5);
        due("marksThen(0, 0)", x.marksThen(0, 0), 5);
        due("marksThen(0, 3)", x.marksThen(0, 3), 7);
        // SCHOLAR: YEAR 0 LION 0 2 + 1, YEAR 1 LION 1 0 + 0, YEAR 2 LION 0 0 + 2.
        due("marksThen(1, 3)", x.marksThen(1, 3), 5);
        due("count(5)", x.count(5), 5);
        due("count(1)", x.count(1), 0);
        due("marksThen(0, 60)", x.marksThen(0, 60), 25);
        due("marksThen(0, 61)", x.marksThen(0, 61), BEYOND);
        due("marksThen(0, -1)", x.marksThen(0, -1), BEYOND);
        due("marksThen(2, 0)", x.marksThen(2, 0), BEYOND);
        due("marksThen(-1, 0)", x.marksThen(-1, 0), BEYOND);
        x.marked(0, 9998);
        due("marksThen(0, 60)", x.marksThen(0, 60), 9999);
        x.year(9999);
        due("marksThen(0, 60) beyond YEAR 9999", x.marksThen(0, 60), 9999);
    }

    private static void laughs() {
        promise = 21;
        LionSigns x = new LionSigns();
        x.knows(255);
        due("laughs(0, 0)", x.laughs(0, 0), 0);
        due("laughs(0, 1)", x.laughs(0, 1), 1);
        due("laughs(0, 60)", x.laughs(0, 60), 60);
        due("laughs(0, 61)", x.laughs(0, 61), NONE);
        due("laughs(1, 1)", x.laughs(1, 1), NONE);
        due("laughs(0, 360)", x.laughs(0, 360), BEYOND);
        due("laughs(0, -1)", x.laughs(0, -1), BEYOND);
        due("laughs(2, 0)", x.laughs(2, 0), BEYOND);
        due("laughs(-1, 0)", x.laughs(-1, 0), BEYOND);
        x.jawed(0, 350);
        due("laughs(0, 359)", x.laughs(0, 359), 9);
        due("laughs(0, 349)", x.laughs(0, 349), 0);
        due("count(3)", x.count(3), 350);
        due("count(1)", x.count(1), 0);
        due("told(2)", x.told(2), 2);
    }

    private static void alike() {
        promise = 22;
        LionSigns x = new LionSigns();
        due("alike()", x.alike(), 0);
        x.knows(255);
        x.jawed(1, 60);
        due("alike()", x.alike(), 60);
        x.jawed(1, 61);
        due("alike()", x.alike(), NONE);
        x.jawed(1, 5);
        x.jawed(0, 355);
        due("alike() over 360", x.alike(), 10);
        due("count(3)", x.count(3), 355);
    }

    private static void fits() {
        promise = 23;
        LionSigns x = new LionSigns();
        due("fits(0, 0, 0)", x.fits(0, 0, 0), NONE);
        x.sheet(0, 16, 3);
        x.put(0, 1, 1);
        x.put(0, 2, 1);
        // EVENT 1 is known, EVENT 2 isn't: the SECRETS that end on 01.
        due("fits(0, 0, 0)", x.fits(0, 0, 0), 64);
        due("fits(0, 0, 1)", x.fits(0, 0, 1), 1);
        due("fits(0, 1, 1)", x.fits(0, 1, 1), 2);
        x.jawed(0, 300);
        due("fits(0, 0, 0)", x.fits(0, 0, 0), 0);
        due("fits(0, 0, 1)", x.fits(0, 0, 1), NONE);
        x.put(0, 0, 300);
        x.put(0, 1, 301);
        x.put(0, 2, 302);
        due("fits(0, 0, 0)", x.fits(0, 0, 0), 64);
        due("fits(0, 0, 1)", x.fits(0, 0, 1), 3);
        x.year(9999);
        x.knows(77);
        x.happens(3, 128);
        x.put(0, 2, 301);
        // Places 3 (128 now) and 4 (16): known, not known.
        due("fits(0, 0, 1) beyond YEAR 9999", x.fits(0, 0, 1), 128);
        x.sheet(1, 8, 0);
        due("fits(1, 0, 0)", x.fits(1, 0, 0), 256);
        due("fits(1, 0, 1)", x.fits(1, 0, 1), 0);
        due("count(2)", x.count(2), 77);
        due("count(3)", x.count(3), 300);
        due("fits(4, 0, 0)", x.fits(4, 0, 0), BEYOND);
        due("fits(-1, 0, 0)", x.fits(-1, 0, 0), BEYOND);
        due("fits(2, 2, 0)", x.fits(2, 2, 0), BEYOND);
        due("fits(2, -1, 0)", x.fits(2, -1, 0), BEYOND);
        due("fits(2, 0, 2)", x.fits(2, 0, 2), BEYOND);
        due("fits(2, 0, -1)", x.fits(2, 0, -1), BEYOND);
        due("fits(2, 0, 0)", x.fits(2, 0, 0), NONE);
    }

    private static void question() {
        promise = 24;
        LionSigns x = new LionSigns();
        due("question(0, 0, 0)", x.question(0, 0, 0), NONE);
        x.sheet(0, 16, 3);
        x.put(0, 1, 1);
        x.put(0, 2, 1);
        // SECRETS with bit 0, without bit 1: of the six others 3 are likeliest known (20), of five 2 or 3 (20 by the
        // two: no less). By EVENT 31 * 4 all six are told: 20; by five of them (124) 10 * 2.
        due("question(0, 0, 0)", x.question(0, 0, 0), 124);
        due("question(0, 0, 1)", x.question(0, 0, 1), 20);
        due("question(0, 1, 1)", x.question(0, 1, 1), 20);
        x.sheet(1, 8, 0);
        due("question(1, 1, 0)", x.question(1, 1, 0), 127);
        due("question(1, 1, 1)", x.question(1, 1, 1), 70);
        read(x, 0, "y*30");
        due("question(1, 0, 0) when all tell the same", x.question(1, 0, 0), 0);
        due("question(1, 0, 1)", x.question(1, 0, 1), 256);
        read(x, 0, "b*(e=5)*y");
        x.year(1);
        // Only EVENTS whose rest by 16 is 5 tell anything: 0xF5 most, with six bits.
        due("question(1, 0, 0)", x.question(1, 0, 0), 117);
        due("question(1, 0, 1)", x.question(1, 0, 1), 80);
        read(x, 0, "y*30");
        due("question(1, 0, 0) when all tell the same", x.question(1, 0, 0), 0);
        due("question(1, 0, 1)", x.question(1, 0, 1), 256);
        read(x, 0, "b*y");
        x.year(8);
        due("question(1, 0, 1) when y is 0", x.question(1, 0, 1), 256);
        x.year(9);
        due("question(1, 0, 1) when y is 1", x.question(1, 0, 1), 70);
        x.untell(0);
        x.jawed(0, 1);
        due("question(0, 0, 0)", x.question(0, 0, 0), STATE);
        due("question(4, 0, 0)", x.question(4, 0, 0), BEYOND);
        due("question(-1, 0, 0)", x.question(-1, 0, 0), BEYOND);
        due("question(2, 2, 0)", x.question(2, 2, 0), BEYOND);
        due("question(2, -1, 0)", x.question(2, -1, 0), BEYOND);
        due("question(2, 0, 2)", x.question(2, 0, 2), BEYOND);
        due("question(2, 0, -1)", x.question(2, 0, -1), BEYOND);
    }

    private static void odds() {
        promise = 25;
        LionSigns x = withReaders(0);
        // After 6 YEARS a GAZER has as many MARKS as the SECRET has of six bits.
        int[][] all = {{0, 1, 1}, {1, 63, 64}, {2, 57, 64}, {3, 21, 32}, {4, 11, 32}, {5, 7, 64}, {6, 1, 64}, {7, 0, 1}};
        for (int[] one : all) {
            due("odds(0, " + one[0] + ", 6, 0)", x.odds(0, one[0], 6, 0), one[1]);
            due("odds(0, " + one[0] + ", 6, 1)", x.odds(0, one[0], 6, 1), one[2]);
        }
        x.marked(0, 9999);
        due("odds(0, 9999, 0, 0)", x.odds(0, 9999, 0, 0), 1);
        due("odds(0, 9999, 20, 1)", x.odds(0, 9999, 20, 1), 1);
        due("odds(0, 10000, 0, 0)", x.odds(0, 10000, 0, 0), BEYOND);
        due("odds(0, -1, 0, 0)", x.odds(0, -1, 0, 0), BEYOND);
        due("odds(0, 0, 21, 0)", x.odds(0, 0, 21, 0), BEYOND);
        due("odds(0, 0, -1, 0)", x.odds(0, 0, -1, 0), BEYOND);
        due("odds(0, 0, 0, 2)", x.odds(0, 0, 0, 2), BEYOND);
        due("odds(0, 0, 0, -1)", x.odds(0, 0, 0, -1), BEYOND);
        due("odds(1, 0, 0, 0)", x.odds(1, 0, 0, 0), BEYOND);
        due("odds(-1, 0, 0, 0)", x.odds(-1, 0, 0, 0), BEYOND);
        due("count(2)", x.count(2), 0);
        due("count(5)", x.count(5), 9999);
        due("count(3)", x.count(3), 0);
        x.year(9999);
        x.marked(0, 0);
        // Places 3 and 4: by both, by one, by none.
        due("odds(0, 2, 2, 1) beyond YEAR 9999", x.odds(0, 2, 2, 1), 4);
    }

    private static void voice() {
        promise = 26;
        // Each at x 7, of reader 2 with m 5: stops, reads, asks, parts.
        int[][] all = {
            {9, 18, 13, 2},
            {5, 10, 5, 0},
            {9, -18, -23, 2},
            {9, 18, 5, 2},
            {15, 30, 27, -4},
            {9, -20, -25, 2},
            {9, 23, 18, 2},
        };
        // SCHOLAR parts: 7 / 3 and reads(1), (1 + 2 - 4) * 2. ENEMY: 7 / 3 and (1 + 2 - 4) * 3 * 2.
        LionSigns x = withReaders(0, 0, 0);
        for (int kind = 0; kind < 7; kind++) {
            x.become(2, 10 * kind + 5);
            for (int voice = 0; voice < 4; voice++) {
                due("voice(2, " + voice + ", 7) of KIND " + kind, x.voice(2, voice, 7), all[kind][voice]);
            }
        }
        due("voice cuts", x.voice(2, 3, -8), -2);
        x.become(2, 35);
        due("CHILD asks by a half, cut", x.voice(2, 2, -7), -7);
        x.become(2, 1);
        due("voice wraps", x.voice(2, 3, Integer.MIN_VALUE), Integer.MIN_VALUE);
        due("voice wraps", x.voice(2, 0, Integer.MAX_VALUE), Integer.MIN_VALUE + 1);
        x.become(2, 2);
        due("voice(2, 3, 7)", x.voice(2, 3, 7), PARTED);
        x.become(2, 12);
        due("voice(2, 3, 7) of a SCHOLAR", x.voice(2, 3, 7), PARTED);
        due("told(6)", x.told(6), 2);
        due("voice that looks like an ERROR", x.voice(0, 0, PARTED), PARTED);
        due("told(6)", x.told(6), 2);
        due("voice(2, 4, 0)", x.voice(2, 4, 0), BEYOND);
        due("voice(2, -1, 0)", x.voice(2, -1, 0), BEYOND);
        due("voice(3, 0, 0)", x.voice(3, 0, 0), BEYOND);
        due("voice(-1, 0, 0)", x.voice(-1, 0, 0), BEYOND);
    }

    private static void body() {
        promise = 27;
        int[][][] all = {
            {{10}, {11, 10}, {12, 11, 10}, {13}},
            {{20, 10}, {11, 20, 10}, {12, 11, 20, 10}, {21, 13, 11, 20, 10}},
            {{10}, {30, 11, 10}, {12, 30, 11, 10}, {13}},
            {{10}, {11, 10}, {40, 12, 11, 10}, {13}},
            {{50, 20, 10}, {11, 50, 20, 10}, {51, 12, 11, 50, 20, 10}, {21, 13, 11, 50, 20, 10}},
            {{10}, {60, 30, 11, 10}, {12, 60, 30, 11, 10}, {13}},
            {{70}, {71, 11, 70}, {12, 71, 11, 70}, {13}},
        };
        LionSigns x = withReaders(0, 0);
        due("body(0)", x.body(0), NONE);
        for (int kind = 0; kind < 7; kind++) {
            x.become(1, 10 * kind + 5);
            for (int voice = 0; voice < 4; voice++) {
                x.voice(1, voice, 7);
                traced(x, "of KIND " + kind + ", voice " + voice, all[kind][voice]);
            }
        }
        due("body(-1)", x.body(-1), NONE);
        // Of one that parts: what began stands, what would come behind it doesn't begin.
        int[][] parting = {{13}, {21, 13}, {13}, {13}, {21, 13}, {13}, {13}};
        for (int kind = 0; kind < 7; kind++) {
            x.become(1, 10 * kind + 1);
            x.voice(1, 2, 7);
            due("voice(1, 3, 7) of KIND " + kind, x.voice(1, 3, 7), PARTED);
            traced(x, "of KIND " + kind + " that parts", parting[kind]);
        }
        // One that isn't asked at all changes nothing.
        x.become(1, 10);
        x.voice(1, 1, 7);
        due("voice(1, 4, 7)", x.voice(1, 4, 7), BEYOND);
        due("voice(2, 0, 7)", x.voice(2, 0, 7), BEYOND);
        traced(x, "behind BEYOND", 11, 20, 10);
    }

    /** That these BODIES are THE TRACE, and no others. */
    private static void traced(LionSigns x, String which, int... bodies) {
        due("count(8) " + which, x.count(8), bodies.length);
        for (int i = 0; i < bodies.length; i++) {
            due("body(" + i + ") " + which, x.body(i), bodies[i]);
        }
        due("body(" + bodies.length + ") " + which, x.body(bodies.length), NONE);
    }

    private static void sheet() {
        promise = 28;
        LionSigns x = new LionSigns();
        due("sheet(0, 8, 24)", x.sheet(0, 8, 24), 1);
        due("sheet(3, 32, 0)", x.sheet(3, 32, 0), 1);
        due("sheet(1, 16, 25)", x.sheet(1, 16, 25), BEYOND);
        due("sheet(1, 16, -1)", x.sheet(1, 16, -1), STATE);
        due("sheet(1, 16, min)", x.sheet(1, 16, Integer.MIN_VALUE), STATE);
        due("sheet(1, 24, -1)", x.sheet(1, 24, -1), BEYOND);
        due("sheet(1, -8, 1)", x.sheet(1, -8, 1), BEYOND);
        due("sheet(4, 8, -1)", x.sheet(4, 8, -1), BEYOND);
        due("sheet(-1, 8, 1)", x.sheet(-1, 8, 1), BEYOND);
        due("judge(1)", x.judge(1), NONE);
        due("put(0, 23, 1)", x.put(0, 23, 1), 1);
        due("put(0, 24, 1)", x.put(0, 24, 1), BEYOND);
        due("sheet(0, 0, -1)", x.sheet(0, 0, -1), 1);
        due("judge(0)", x.judge(0), NONE);
        due("sheet(0, 0, 25)", x.sheet(0, 0, 25), 1);
        due("sheet(4, 0, 25)", x.sheet(4, 0, 25), BEYOND);
        LionSigns y = withReaders(0);
        y.sheet(0, 8, 1);
        y.put(0, 0, 5);
        due("judge(0)", y.judge(0), 0);
        y.sheet(0, 8, 1);
        due("judge(0) of a new row", y.judge(0), 1);
        y.put(0, 0, 5);
        y.sheet(0, 8, -1);
        y.sheet(0, 8, 25);
        due("judge(0) of the old row", y.judge(0), 0);
    }

    private static void put() {
        promise = 29;
        LionSigns x = withReaders(0);
        due("put(0, 0, 1)", x.put(0, 0, 1), NONE);
        due("put(4, 0, 1)", x.put(4, 0, 1), BEYOND);
        due("put(-1, 0, 1)", x.put(-1, 0, 1), BEYOND);
        // v, and what the lowest bits of it are; those of 8 and 16 bits are read with their sign.
        int[][] all = {{8, 256 + 77, 77}, {8, 127, 127}, {16, 65536 + 300, 300}, {16, 9999, 9999}, {32, 9999, 9999}};
        for (int[] one : all) {
            x.sheet(0, one[0], 1);
            due("put(0, 0, " + one[1] + ")", x.put(0, 0, one[1]), 1);
            due("markAll(0)", x.markAll(0), 1);
            due("MARKS", x.readerIs(0, 2), one[2]);
        }
        int[][] refused = {{8, -1}, {8, 128}, {8, 255}, {16, -1}, {16, 65535}, {16, 32768}, {32, -1}, {32, 65536}};
        for (int[] one : refused) {
            x.sheet(0, one[0], 1);
            x.put(0, 0, one[1]);
            due("markAll(0) of " + one[1] + " in " + one[0] + " bits", x.markAll(0), 0);
        }
        due("put(0, 1, 1)", x.put(0, 1, 1), BEYOND);
        due("put(0, -1, 1)", x.put(0, -1, 1), BEYOND);
    }

    private static void move() {
        promise = 30;
        LionSigns x = withReaders(0, 0, 0, 0);
        x.sheet(0, 16, 4);
        for (int i = 0; i < 4; i++) {
            x.put(0, i, 10 + i);
        }
        due("move(0, 0, 0, 1, 3)", x.move(0, 0, 0, 1, 3), 3);
        marks(x, 0, 10, 10, 11, 12);
        due("move(0, 1, 0, 0, 3)", x.move(0, 1, 0, 0, 3), 3);
        marks(x, 0, 10, 11, 12, 12);
        x.sheet(1, 16, 2);
        due("move(0, 2, 1, 1, 1)", x.move(0, 2, 1, 1, 1), 1);
        marks(x, 1, 0, 12, 12, 12);
        due("move(0, 0, 1, 0, 3)", x.move(0, 0, 1, 0, 3), BEYOND);
        due("move(1, 0, 0, 0, 3)", x.move(1, 0, 0, 0, 3), BEYOND);
        due("move(0, 3, 1, 0, 2)", x.move(0, 3, 1, 0, 2), BEYOND);
        due("move(0, 0, 1, 1, 2)", x.move(0, 0, 1, 1, 2), BEYOND);
        due("move(0, -1, 1, 0, 1)", x.move(0, -1, 1, 0, 1), BEYOND);
        due("move(0, 0, 1, -1, 1)", x.move(0, 0, 1, -1, 1), BEYOND);
        due("move(0, 0, 1, 0, -1)", x.move(0, 0, 1, 0, -1), BEYOND);
        due("move(0, max, 1, 0, max)", x.move(0, Integer.MAX_VALUE, 1, 0, Integer.MAX_VALUE), BEYOND);
        due("move(0, 0, 1, max, 1)", x.move(0, 0, 1, Integer.MAX_VALUE, 1), BEYOND);
        due("move(0, 4, 1, 2, 0)", x.move(0, 4, 1, 2, 0), 0);
        marks(x, 1, 0, 12, 12, 12);
        x.sheet(2, 8, 2);
        due("move(0, -1, 2, 0, 1)", x.move(0, -1, 2, 0, 1), KIND);
        due("move(0, 0, 3, -1, 1)", x.move(0, 0, 3, -1, 1), NONE);
        due("move(3, 0, 0, 0, 1)", x.move(3, 0, 0, 0, 1), NONE);
        due("move(3, 0, 3, 0, 0)", x.move(3, 0, 3, 0, 0), NONE);
        due("move(4, 0, 3, 0, 0)", x.move(4, 0, 3, 0, 0), BEYOND);
        due("move(3, 0, 4, 0, 0)", x.move(3, 0, 4, 0, 0), BEYOND);
        due("move(-1, 0, 0, 0, 0)", x.move(-1, 0, 0, 0, 0), BEYOND);
        due("move(0, 0, -1, 0, 0)", x.move(0, 0, -1, 0, 0), BEYOND);
    }

    /** That READERS 0 .. 3 have these MARKS, when a SHEET has given them. */
    private static void marks(LionSigns x, int sheet, int... want) {
        x.markAll(sheet);
        for (int i = 0; i < want.length; i++) {
            due("MARKS of " + i + " by SHEET " + sheet, x.readerIs(i, 2), want[i]);
        }
    }

    private static void markAll() {
        promise = 31;
        LionSigns x = withReaders(0, 0, 0);
        due("markAll(0)", x.markAll(0), NONE);
        due("markAll(4)", x.markAll(4), BEYOND);
        due("markAll(-1)", x.markAll(-1), BEYOND);
        x.sheet(0, 32, 5);
        x.put(0, 0, 9999);
        x.put(0, 1, 1);
        due("markAll(0)", x.markAll(0), 3);
        due("count(5)", x.count(5), 10000);
        x.put(0, 0, 5);
        x.put(0, 1, 10000);
        x.put(0, 2, 7);
        due("markAll(0)", x.markAll(0), 1);
        due("count(5)", x.count(5), 6);
        x.sheet(0, 32, 2);
        due("markAll(0) of few", x.markAll(0), 2);
        due("told(1)", x.told(1), 2);
        due("told(2)", x.told(2), 1);
    }

    private static void judge() {
        promise = 32;
        LionSigns x = withReaders(0, 0);
        due("judge(0)", x.judge(0), NONE);
        due("judge(4)", x.judge(4), BEYOND);
        due("judge(-1)", x.judge(-1), BEYOND);
        x.marked(0, 5);
        x.sheet(0, 16, 4);
        due("judge(0)", x.judge(0), 0);
        x.put(0, 0, 5);
        due("judge(0)", x.judge(0), 2);
        x.marked(1, 1);
        due("judge(0)", x.judge(0), 1);
        due("count(5)", x.count(5), 6);
        x.sheet(0, 16, 1);
        x.marked(0, 0);
        x.marked(1, 0);
        due("judge(0) of one number", x.judge(0), 1);
        x.sheet(0, 16, 0);
        due("judge(0) of none", x.judge(0), 0);
    }

    private static void image() {
        promise = 33;
        LionSigns x = new LionSigns();
        due("image()", x.image(), 1);
        x.year(5);
        due("image()", x.image(), 2);
        x.year(6);
        due("restore()", x.restore(), 5);
        due("image()", x.image(), 3);
        due("restore()", x.restore(), 5);
    }

    private static void restore() {
        promise = 34;
        LionSigns x = withReaders(23, 45);
        due("restore()", x.restore(), NONE);
        x.marked(1, 6);
        x.knows(7);
        x.jawed(0, 8);
        x.jawed(1, 9);
        x.happens(2, 10);
        read(x, 0, "b+11");
        read(x, 1, "r+12");
        write(x, "b+13");
        x.tell(12);
        x.seed(15);
        x.year(16);
        x.sheet(0, 8, 1);
        x.image();
        for (int round = 0; round < 2; round++) {
            x.reader(3);
            x.become(0, 66);
            x.marked(1, 0);
            x.knows(0);
            x.jawed(0, 0);
            x.jawed(1, 0);
            x.happens(2, 0);
            x.untell(1);
            read(x, 0, "e");
            x.sign(0, 1);
            x.check();
            x.seed(0);
            x.year(0);
            x.sheet(0, 0, 0);
            x.voice(0, 1, 1);
            int trace = x.count(8);
            due("restore()", x.restore(), 16);
            int[] counts = {2, 16, 7, 8, 9, 6, 4, 1, trace, 15};
            for (int i = 0; i < counts.length; i++) {
                due("count(" + i + ")", x.count(i), counts[i]);
            }
            due("readerIs(0, 0)", x.readerIs(0, 0), 2);
            due("readerIs(0, 1)", x.readerIs(0, 1), 3);
            due("happens(2, 10)", x.happens(2, 10), 10);
            due("sign(0, 3)", x.sign(0, 3), 13);
            due("law(1, 1, 0, 0)", x.law(1, 1, 0, 0), 13);
            due("judge(0)", x.judge(0), NONE);
            due("tell(0)", x.tell(0), 2);
            due("check() of a number that the image has", x.check(), 2);
            due("told(2)", x.told(2), 2 + round);
            due("text(0)", x.text(0), 1);
            due("sign(0, 3)", x.sign(0, 3), 15);
        }
        due("image()", x.image(), 2);
    }

    private static void tell() {
        promise = 35;
        LionSigns x = new LionSigns();
        for (int i = 1; i <= 24; i++) {
            due("tell(" + -i + ")", x.tell(-i), i);
        }
        due("tell(0)", x.tell(0), FULL);
        due("count(7)", x.count(7), 24);
    }

    private static void check() {
        promise = 36;
        LionSigns x = new LionSigns();
        x.knows(3);
        due("check() of none", x.check(), 0);
        int[] turns = {1, 1, 0, 0, 0, 0};
        for (int turn : turns) {
            x.tell(turn);
        }
        due("check()", x.check(), 0);
        due("count(7)", x.count(7), 0);
        for (int turn : turns) {
            x.tell(turn);
        }
        x.tell(0);
        x.tell(0);
        due("check() beyond place 5", x.check(), 7);
        x.tell(1);
        x.tell(0);
        x.tell(5);
        due("check()", x.check(), 2);
        due("count(7)", x.count(7), 0);
        read(x, 0, "y");
        x.year(3);
        x.tell(3);
        x.tell(4);
        due("check() in this YEAR alone", x.check(), 2);
    }

    private static void count() {
        promise = 37;
        LionSigns x = withReaders(0, 0);
        x.year(3);
        x.knows(4);
        x.jawed(0, 5);
        x.jawed(1, 6);
        x.marked(0, 7);
        x.marked(1, 8);
        write(x, "bbb");
        x.tell(0);
        x.voice(0, 1, 0);
        x.seed(BEYOND);
        int[] counts = {2, 3, 4, 5, 6, 15, 3, 1, 2, BEYOND};
        for (int i = 0; i < counts.length; i++) {
            due("count(" + i + ")", x.count(i), counts[i]);
        }
        due("told(1)", x.told(1), 0);
        due("count(10)", x.count(10), BEYOND);
        due("count(-1)", x.count(-1), BEYOND);
        due("told(1)", x.told(1), 2);
    }

    private static void told() {
        promise = 38;
        LionSigns x = withReaders(0, 0, 0, 0, 0, 0);
        x.reader(-1);
        x.reader(0);
        x.reader(0);
        x.restore();
        x.body(0);
        x.body(0);
        x.sheet(0, 8, -1);
        x.as(0, 1);
        x.voice(0, 3, 1);
        x.text(0);
        int[] want = {0, 1, 3, 1, 2, 1, 1};
        for (int k = 1; k <= 6; k++) {
            due("told(" + k + ")", x.told(k), want[k]);
        }
        due("told(0)", x.told(0), BEYOND);
        due("told(7)", x.told(7), BEYOND);
        due("told(-1)", x.told(-1), BEYOND);
        due("told(1)", x.told(1), 4);
    }

    public static void main(String[] args) {
        newObject();
        reader();
        readerIs();
        become();
        as();
        marked();
        knows();
        jawed();
        happens();
        sign();
        feed();
        textFaults();
        untell();
        law();
        years();
        loose();
        year();
        seed();
        then();
        marksThen();
        laughs();
        alike();
        fits();
        question();
        odds();
        voice();
        body();
        sheet();
        put();
        move();
        markAll();
        judge();
        image();
        restore();
        tell();
        check();
        count();
        told();
        System.out.println(wrong == 0 ? "all promises are kept" : wrong + " answers are not as due");
        if (wrong != 0) {
            System.exit(1);
        }
    }
}
