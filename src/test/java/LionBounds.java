/** Bounds of promises 1 to 10: a new object, READERS, what LIONS know, their JAWS, EVENTS, SIGNS. */
final class LionBounds {
    private static final String BASE = Bounds.BASE;
    private static final String SIX = "reader(0) reader(11) reader(22) reader(33) reader(44) reader(55) ";

    private LionBounds() {
    }

    static void all(Bounds b) {
        newObject(b);
        errors(b);
        reader(b);
        readerIs(b);
        looksAt(b);
        become(b);
        as(b);
        marked(b);
        knows(b);
        jawed(b);
        happens(b);
        sign(b);
    }

    private static void newObject(Bounds b) {
        b.says(1, "All as at first; no READERS, no TEXTS.",
                "count(0) = 0 count(1) = 0 count(2) = 0 count(3) = 0 count(4) = 0 count(5) = 0 count(6) = 0 count(7) = 0 "
                + "count(8) = 0 count(9) = 1",
                "told(1) = 0 told(2) = 0 told(3) = 0 told(4) = 0 told(5) = 0 told(6) = 0",
                "readerIs(0, 0) = BEYOND become(0, 0) = BEYOND as(0, 0) = BEYOND marked(0, 0) = BEYOND",
                "untell(0) = 0 untell(1) = 0",
                "text(0) = -10 text(1) = -10 check() = 0 body(0) = NONE restore() = NONE image() = 1",
                "judge(0) = NONE judge(1) = NONE judge(2) = NONE judge(3) = NONE",
                "happens(0, 0) = 1 happens(1, 0) = 2 happens(2, 0) = 4 happens(3, 0) = 8 happens(4, 0) = 16 "
                + "happens(5, 0) = 32");
        b.says(1, "An object is used for at most 512 calls after it has been made",
                "knows(255) = 0 " + "sign(0, 255) = 8 ".repeat(509) + "years(1) = 0 count(3) = 1",
                "reader(0) " + "odds(0, 1, 20, 0) = 63 ".repeat(511),
                "sheet(0, 16, 0) " + "question(0, 1, 0) = 127 ".repeat(510) + "question(0, 1, 1) = 70",
                SIX + "loose(30) ".repeat(333) + "image() restore() ".repeat(86) + "count(1) = 9990");
    }

    private static void errors(Bounds b) {
        b.says(2, "ERRORS are answers below -1000000000: LOW is -1000000000; LOW - 1 BEYOND", "reader(-1) = -1000000001 "
                + "told(1) = 1");
        b.says(27, "LOW - 2 NONE", "body(0) = -1000000002 told(2) = 1");
        b.says(28, "LOW - 3 STATE", "sheet(0, 8, -1) = -1000000003 told(3) = 1");
        b.says(35, "LOW - 4 FULL", "tell(0) ".repeat(24) + "tell(0) = -1000000004 told(4) = 1");
        b.says(5, "LOW - 5 KIND", "reader(0) as(0, 1) = -1000000005 told(5) = 1");
        b.says(26, "LOW - 6 PARTED (in longs, too).", "reader(0) voice(0, 3, 1) = -1000000006 told(6) = 1");
        // Where an act has two ERRORS, a call that both would answer gets the one that is asked first.
        String order = "Each act tells its ERRORS in the order in which they are asked; one that answers an ERROR changes "
                + "nothing but what told() tells, or where told.";
        b.says(2, order, SIX + "reader(-1) = BEYOND reader(70) = BEYOND reader(0) = FULL");
        b.says(5, order, BASE + "as(0, -1) = BEYOND as(0, 7) = BEYOND as(3, 1) = BEYOND as(-1, 1) = BEYOND as(0, 1) = KIND");
        b.says(11, order, "feed(-1, 8) ".repeat(7) + "feed(-1, 4) feed(-1, 0) = BEYOND feed(-1, 9) = BEYOND "
                + "feed(-1, 8) = FULL");
        b.says(15, order, BASE + "year(9999) years(0) = BEYOND years(61) = BEYOND years(60) = STATE");
        b.says(16, order, BASE + "year(9999) loose(0) = BEYOND loose(31) = BEYOND loose(30) = STATE");
        b.says(21, order, BASE + "happens(0, 0) happens(1, 0) happens(2, 0) happens(3, 0) happens(5, 0) untell(0) "
                + "jawed(0, 0) laughs(0, 360) = BEYOND laughs(2, 1) = BEYOND laughs(0, 1) = NONE");
        b.says(23, order, BASE + "fits(3, 2, 0) = BEYOND fits(3, -1, 0) = BEYOND fits(3, 0, 2) = BEYOND "
                + "fits(3, 0, -1) = BEYOND fits(3, 0, 0) = NONE fits(0, 2, 1) = BEYOND fits(0, 0, 1) = NONE");
        b.says(24, order, BASE + "question(3, 2, 0) = BEYOND question(3, -1, 0) = BEYOND question(3, 0, 2) = BEYOND "
                + "question(3, 0, -1) = BEYOND question(3, 0, 0) = NONE question(0, 2, 0) = BEYOND "
                + "question(0, 0, 2) = BEYOND question(0, 0, 0) = STATE");
        b.says(26, order, BASE + "become(1, 11) voice(1, 3, 0) = PARTED voice(1, 4, 0) = BEYOND voice(3, 3, 0) = BEYOND");
        b.says(28, order, BASE + "sheet(4, 8, -1) = BEYOND sheet(-1, 8, -1) = BEYOND sheet(0, 7, -1) = BEYOND "
                + "sheet(4, 7, 25) = BEYOND sheet(0, 8, -1) = STATE sheet(0, 8, 25) = BEYOND");
        b.says(29, order, BASE + "put(4, -1, 0) = BEYOND put(-1, 99, 0) = BEYOND put(3, -1, 0) = NONE put(3, 99, 0) = NONE "
                + "put(0, -1, 0) = BEYOND");
        b.says(30, order, BASE + "move(4, 0, 3, 0, 0) = BEYOND move(3, 0, 4, 0, 0) = BEYOND move(3, 0, 0, 9, 0) = NONE "
                + "move(0, -1, 3, 0, 1) = NONE move(0, -1, 1, 0, 1) = KIND move(0, 0, 1, 0, -1) = KIND "
                + "move(0, 0, 0, 0, -1) = BEYOND");
        b.says(31, order, BASE + "markAll(4) = BEYOND markAll(3) = NONE");
        b.says(32, order, BASE + "judge(4) = BEYOND judge(3) = NONE");
    }

    private static void reader(Bounds b) {
        b.says(2, "One of READERS more (km: 10 times the KIND, and m): the number.",
                "reader(0) = 0 readerIs(0, 0) = 0 readerIs(0, 1) = 0",
                "reader(69) = 0 readerIs(0, 0) = 6 readerIs(0, 1) = 9",
                "reader(9) = 0 reader(10) = 1 readerIs(0, 0) = 0 readerIs(0, 1) = 9 readerIs(1, 0) = 1 readerIs(1, 1) = 0",
                "reader(59) = 0 reader(60) = 1 readerIs(0, 0) = 5 readerIs(0, 1) = 9 readerIs(1, 0) = 6 readerIs(1, 1) = 0",
                BASE + "reader(25) = 3 count(0) = 4 readerIs(3, 0) = 2 readerIs(3, 1) = 5 readerIs(2, 0) = 2 "
                + "readerIs(2, 1) = 6");
        b.says(2, "BEYOND.", "reader(-1) = BEYOND reader(70) = BEYOND count(0) = 0",
                BASE + "reader(-1) = BEYOND reader(70) = BEYOND reader(min) = BEYOND reader(max) = BEYOND reader(0) = 3");
        b.says(2, "FULL.", SIX + "reader(0) = FULL reader(69) = FULL count(0) = 6",
                BASE + "reader(1) = 3 reader(2) = 4 reader(3) = 5 reader(4) = FULL restore() = 4321 reader(4) = 3");
        b.says(2, "READERS 0, 1, .. (at most 6), of KINDS: 0 GAZER,",
                "reader(0) = 0 reader(1) = 1 reader(2) = 2 reader(3) = 3 reader(4) = 4 reader(5) = 5 reader(6) = FULL "
                + "readerIs(0, 1) = 0 readerIs(5, 1) = 5 readerIs(6, 1) = BEYOND");
        b.says(2, "each with a number m (0 .. 9), MARKS (0 .. 9999; 0 at first).",
                "reader(0) = 0 readerIs(0, 1) = 0 readerIs(0, 2) = 0 reader(9) = 1 readerIs(1, 1) = 9 readerIs(1, 2) = 0",
                // One more in the place of one that the IMAGE doesn't have has MARKS of its own.
                "image() reader(0) = 0 marked(0, 9999) restore() = 0 reader(0) = 0 readerIs(0, 2) = 0 count(5) = 0");
    }

    private static void readerIs(Bounds b) {
        b.says(3, "Of one: 0 KIND, 1 m, 2 MARKS, 3 which LION it LOOKS AT, as all is now.",
                BASE + "readerIs(0, 0) = 3 still readerIs(0, 1) = 4 still readerIs(0, 2) = 70 still "
                + "readerIs(0, 3) = 0 still readerIs(2, 0) = 2 readerIs(2, 1) = 6 readerIs(2, 2) = 44 readerIs(2, 3) = 1",
                SIX + "marked(0, 9999) marked(5, 1) readerIs(5, 0) = 5 readerIs(5, 1) = 5 readerIs(5, 2) = 1 "
                + "readerIs(5, 3) = 0 readerIs(0, 2) = 9999",
                "reader(30) jawed(0, 1) readerIs(0, 3) = 1 jawed(1, 1) readerIs(0, 3) = 0 become(0, 10) year(1) "
                + "readerIs(0, 3) = 1 years(1) readerIs(0, 3) = 0");
        b.says(3, "BEYOND.", "readerIs(0, 0) = BEYOND",
                BASE + "readerIs(-1, 0) = BEYOND readerIs(3, 0) = BEYOND readerIs(0, -1) = BEYOND readerIs(0, 4) = BEYOND "
                + "readerIs(min, 0) = BEYOND readerIs(max, 0) = BEYOND readerIs(0, min) = BEYOND readerIs(0, max) = BEYOND",
                SIX + "readerIs(6, 0) = BEYOND readerIs(5, 0) = 5");
    }

    /** Of one reader, for each number m (from 0) which LION it looks at. */
    private static String byM(int kind, String ahead, String lions) {
        StringBuilder run = new StringBuilder("reader(0) " + ahead);
        for (int m = 0; m < lions.length(); m++) {
            run.append(" become(0, ").append(10 * kind + m).append(") readerIs(0, 3) = ").append(lions.charAt(m));
        }
        return run.toString();
    }

    private static void looksAt(Bounds b) {
        b.says(3, "LOOKS AT (which LION): GAZER: the rest of m by 2.", byM(0, "", "0101010101"),
                byM(0, "year(9999) jawed(0, 359)", "0101010101"));
        b.says(3, "SCHOLAR: the rest of YEAR by 2.", byM(1, "", "0000000000"), byM(1, "year(1)", "1111111111"),
                byM(1, "year(9998)", "0000000000"), byM(1, "year(9999)", "1111111111"));
        b.says(3, "DEPUTY: as GAZER; the other one, if m is above 4.", byM(2, "", "0101001010"),
                byM(2, "year(1) jawed(0, 1)", "0101001010"));
        b.says(3, "CHILD: 0, if JAW of LION 0 is no more than that of LION 1; else 1.", byM(3, "", "0000000000"),
                byM(3, "jawed(0, 1)", "1111111111"), byM(3, "jawed(1, 1)", "0000000000"),
                byM(3, "jawed(0, 359) jawed(1, 359)", "0000000000"), byM(3, "jawed(0, 359) jawed(1, 358)", "1111111111"),
                byM(3, "jawed(0, 358) jawed(1, 359)", "0000000000"), byM(3, "jawed(0, 359)", "1111111111"));
        b.says(3, "ENEMY: the one that SCHOLAR doesn't.", byM(4, "", "1111111111"), byM(4, "year(1)", "0000000000"),
                byM(4, "year(9999)", "0000000000"));
        b.says(3, "CLERK: as DEPUTY.", byM(5, "", "0101001010"), byM(5, "year(1) jawed(0, 1)", "0101001010"));
        b.says(3, "TOURIST: 0.", byM(6, "", "0000000000"), byM(6, "year(1) jawed(0, 1)", "0000000000"));
    }

    private static void become(Bounds b) {
        b.says(4, "One becomes one of a KIND, with m (km): the KIND that one was.",
                BASE + "become(0, 0) = 3 readerIs(0, 0) = 0 readerIs(0, 1) = 0 readerIs(0, 2) = 70 become(0, 69) = 0 "
                + "readerIs(0, 0) = 6 readerIs(0, 1) = 9 readerIs(0, 2) = 70 readerIs(1, 0) = 1 readerIs(1, 1) = 5 "
                + "count(0) = 3",
                SIX + "become(5, 9) = 5 become(5, 10) = 0 readerIs(5, 0) = 1 readerIs(5, 1) = 0 readerIs(4, 0) = 4 "
                + "become(4, 60) = 4");
        b.says(4, "BEYOND.", "become(0, 0) = BEYOND",
                BASE + "become(-1, 0) = BEYOND become(3, 0) = BEYOND become(0, -1) = BEYOND become(0, 70) = BEYOND "
                + "become(min, 0) = BEYOND become(max, 0) = BEYOND become(0, min) = BEYOND become(0, max) = BEYOND "
                + "become(0, 0) = 3",
                SIX + "become(6, 0) = BEYOND");
    }

    private static void as(Bounds b) {
        b.says(5, "One as one of a KIND: m.", "reader(0) as(0, 0) = 0 still", "reader(69) as(0, 6) = 9 still as(0, 0) = 9",
                SIX + "as(5, 5) = 5 as(5, 2) = 5 as(5, 0) = 5 as(0, 0) = 0");
        b.says(5, "BEYOND.", "as(0, 0) = BEYOND",
                BASE + "as(-1, 0) = BEYOND as(3, 0) = BEYOND as(0, -1) = BEYOND as(0, 7) = BEYOND as(min, 0) = BEYOND "
                + "as(max, 0) = BEYOND as(0, min) = BEYOND as(0, max) = BEYOND as(0, 0) = 4",
                SIX + "as(6, 0) = BEYOND");
        String[] under = {"m      ", "mm     ", "m m    ", "m  m   ", "mm  m  ", "m m  m ", "m     m"};
        String[] quotes = {"of KINDS: 0 GAZER,", "1 SCHOLAR under GAZER,", "2 DEPUTY under GAZER,", "3 CHILD under GAZER,",
            "4 ENEMY under SCHOLAR,", "5 CLERK under DEPUTY,", "6 TOURIST under GAZER;"};
        for (int kind = 0; kind < 7; kind++) {
            StringBuilder run = new StringBuilder(BASE + "become(2, " + (10 * kind + 7) + ") ");
            for (int other = 0; other < 7; other++) {
                run.append("as(2, ").append(other).append(under[kind].charAt(other) == 'm' ? ") = 7 still " : ") = KIND ");
            }
            b.says(5, quotes[kind], run.toString());
            b.says(5, "KIND: one isn't of that KIND, nor of one under it.", run.toString());
        }
    }

    private static void marked(Bounds b) {
        b.says(6, "MARKS of one become v: what they were.",
                BASE + "marked(0, 9999) = 70 marked(0, 0) = 9999 marked(0, 1) = 0 readerIs(0, 2) = 1 readerIs(1, 2) = 9999 "
                + "marked(2, 9998) = 44 count(5) = 19998",
                SIX + "marked(5, 9999) = 0 count(5) = 9999 readerIs(5, 2) = 9999 readerIs(0, 2) = 0");
        b.says(6, "BEYOND.", "marked(0, 0) = BEYOND",
                BASE + "marked(-1, 0) = BEYOND marked(3, 0) = BEYOND marked(0, -1) = BEYOND marked(0, 10000) = BEYOND "
                + "marked(min, 0) = BEYOND marked(max, 0) = BEYOND marked(0, min) = BEYOND marked(0, max) = BEYOND "
                + "marked(0, 0) = 70",
                SIX + "marked(6, 0) = BEYOND");
    }

    private static void knows(Bounds b) {
        b.says(7, "SECRET becomes v: what it was.",
                "knows(255) = 0 count(2) = 255 knows(0) = 255 count(2) = 0 knows(128) = 0 sign(0, 128) = 1");
        b.says(7, "BEYOND.", BASE + "knows(-1) = BEYOND knows(256) = BEYOND knows(min) = BEYOND knows(max) = BEYOND "
                + "knows(0) = 21");
        b.says(7, "SECRET (0 .. 255; 0 at first).", "knows(0) = 0", "count(2) = 0 knows(255) = 0 knows(256) = BEYOND "
                + "knows(0) = 255");
    }

    private static void jawed(Bounds b) {
        b.says(8, "JAW of a LION becomes v: what it was.",
                BASE + "jawed(0, 359) = 11 jawed(1, 0) = 12 jawed(0, 0) = 359 jawed(1, 359) = 0 count(3) = 0 "
                + "count(4) = 359");
        b.says(8, "BEYOND.",
                BASE + "jawed(-1, 0) = BEYOND jawed(2, 0) = BEYOND jawed(0, -1) = BEYOND jawed(0, 360) = BEYOND "
                + "jawed(1, -1) = BEYOND jawed(1, 360) = BEYOND jawed(min, 0) = BEYOND jawed(max, 0) = BEYOND "
                + "jawed(0, min) = BEYOND jawed(1, max) = BEYOND jawed(0, 0) = 11 jawed(1, 0) = 12");
        b.says(8, "LIONS 0, 1, each with a JAW (0 .. 359; 0 at first).", "jawed(0, 0) = 0 jawed(0, 359) = 0 "
                + "jawed(0, 0) = 359",
                "jawed(1, 0) = 0 jawed(1, 359) = 0 jawed(1, 0) = 359");
    }

    private static void happens(Bounds b) {
        b.says(9, "The EVENT in a place becomes v: what it was.",
                "happens(0, 255) = 1 happens(5, 255) = 32 happens(0, 0) = 255 happens(5, 0) = 255 happens(0, 1) = 0 "
                + "happens(5, 1) = 0 happens(1, 2) = 2 happens(4, 16) = 16");
        b.says(9, "BEYOND.",
                BASE + "happens(-1, 0) = BEYOND happens(6, 0) = BEYOND happens(0, -1) = BEYOND happens(0, 256) = BEYOND "
                + "happens(5, -1) = BEYOND happens(5, 256) = BEYOND happens(min, 0) = BEYOND happens(max, 0) = BEYOND "
                + "happens(0, min) = BEYOND happens(0, max) = BEYOND happens(0, 0) = 1 happens(5, 0) = 32");
        b.says(9, "EVENTS: places 0 .. 5, each of a number 0 .. 255 (1, 2, 4, 8, 16, 32 at first).",
                "happens(0, 0) = 1 happens(1, 0) = 2 happens(2, 0) = 4 happens(3, 0) = 8 happens(4, 0) = 16 "
                + "happens(5, 0) = 32 happens(0, 255) = 0 happens(1, 255) = 0 happens(2, 255) = 0 happens(3, 255) = 0 "
                + "happens(4, 255) = 0 happens(5, 255) = 0 happens(6, 255) = BEYOND happens(5, 256) = BEYOND "
                + "happens(5, 0) = 255");
    }

    private static void sign(Bounds b) {
        b.says(10, "TURN of a LION for an EVENT v in this YEAR.",
                BASE + "sign(0, 0) = 0 still sign(1, 0) = 0 still sign(0, 255) = 7 still sign(1, 255) = 11 still",
                "write('y') text(0) year(7) sign(0, 0) = 7 year(8) sign(0, 0) = 0 year(9999) sign(1, 255) = 7 year(9998) "
                + "sign(1, 0) = 6");
        b.says(10, "BEYOND.",
                BASE + "sign(-1, 0) = BEYOND sign(2, 0) = BEYOND sign(0, -1) = BEYOND sign(0, 256) = BEYOND "
                + "sign(1, -1) = BEYOND sign(1, 256) = BEYOND sign(min, 0) = BEYOND sign(max, 0) = BEYOND "
                + "sign(0, min) = BEYOND sign(0, max) = BEYOND");
        b.says(10, "SIGNS of a LION for an EVENT: how many of the bits of the EVENT (of 8) are in SECRET (LION 0), or "
                + "aren't (LION 1).",
                "sign(0, 255) = 0 sign(1, 255) = 8 sign(0, 0) = 0 sign(1, 0) = 0 sign(1, 128) = 1 sign(1, 1) = 1",
                "knows(255) sign(0, 255) = 8 sign(1, 255) = 0 sign(0, 0) = 0 sign(1, 0) = 0 sign(0, 128) = 1 sign(0, 1) = 1",
                "knows(128) sign(0, 255) = 1 sign(1, 255) = 7 sign(0, 127) = 0 sign(1, 127) = 7 sign(0, 128) = 1 "
                + "sign(1, 128) = 0",
                "knows(1) sign(0, 255) = 1 sign(1, 255) = 7 sign(0, 254) = 0 sign(1, 254) = 7 sign(0, 1) = 1 "
                + "sign(1, 1) = 0");
        b.says(10, "TURN of a LION for an EVENT is what the TEXT of that USE gives.",
                "write('b*9') text(0) knows(7) sign(0, 255) = 27 sign(1, 255) = 30 sign(0, 3) = 18 untell(0) sign(0, 3) = 2",
                "write('9-e') text(0) sign(0, 0) = 9 sign(0, 9) = 0 sign(0, 10) = 0 sign(0, 15) = 0 sign(0, 16) = 9 "
                + "sign(0, 255) = 0",
                "write('30') text(0) sign(0, 0) = 30 write('31') text(0) sign(0, 0) = 30 write('0-1') text(0) "
                + "sign(0, 0) = 0");
    }
}
