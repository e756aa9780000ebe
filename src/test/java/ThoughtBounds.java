/** Bounds of promises 19 to 25: what would be. */
final class ThoughtBounds {
    private static final String BASE = Bounds.BASE;
    private static final String SIX = "reader(0) reader(11) reader(22) reader(33) reader(44) reader(55) ";
    /** The EVENT in place p has p + 1 bits. */
    private static final String STEPS =
            "happens(0, 1) happens(1, 3) happens(2, 7) happens(3, 15) happens(4, 31) happens(5, 63) ";
    private static final String THOUGHT = "(All this is only thought; YEAR beyond 9999, too.)";

    private ThoughtBounds() {
    }

    static void all(Bounds b) {
        then(b);
        marksThen(b);
        laughs(b);
        alike(b);
        fits(b);
        question(b);
        odds(b);
    }

    /** A SHEET of 16 bits with these numbers. */
    private static String sheet(int sheet, int... numbers) {
        StringBuilder run = new StringBuilder("sheet(" + sheet + ", 16, " + numbers.length + ") ");
        for (int i = 0; i < numbers.length; i++) {
            run.append("put(").append(sheet).append(", ").append(i).append(", ").append(numbers[i]).append(") ");
        }
        return run.toString();
    }

    private static void then(Bounds b) {
        b.says(19, "THEN of a LION, for n (0 .. 60): JAW.",
                "jawed(0, 359) then(0, 0) = 359 still then(0, 60) = 359 still then(1, 0) = 0 still then(1, 1) = 1 still "
                + "then(1, 60) = 60 still",
                BASE + "then(0, 0) = 11 still then(1, 0) = 12 still then(0, 60) still then(1, 60) still");
        b.says(19, "BEYOND.", BASE + "then(-1, 0) = BEYOND then(2, 0) = BEYOND then(0, -1) = BEYOND then(0, 61) = BEYOND "
                + "then(1, -1) = BEYOND then(1, 61) = BEYOND then(min, 0) = BEYOND then(max, 0) = BEYOND "
                + "then(0, min) = BEYOND then(0, max) = BEYOND");
        b.says(19, THOUGHT, BASE + "year(9999) then(0, 1) = 11 still then(0, 6) = 26 still then(0, 60) still "
                + "then(1, 60) still count(1) = 9999",
                STEPS + "knows(255) year(9999) then(0, 1) = 4 then(0, 2) = 9 then(0, 3) = 15 then(0, 4) = 16 "
                + "then(0, 60) = 210 count(1) = 9999");
        b.says(19, "THEN: JAW of a LION, MARKS of one of READERS, n YEARS on.",
                STEPS + "knows(255) then(0, 1) = 1 then(0, 2) = 3 then(0, 6) = 21 then(0, 7) = 22 then(1, 60) = 0 year(5) "
                + "then(0, 1) = 6 then(0, 2) = 7", "jawed(1, 300) then(1, 59) = 359 then(1, 60) = 0 jawed(1, 359) "
                + "then(1, 1) = 0 then(1, 2) = 1");
    }

    private static void marksThen(Bounds b) {
        b.says(20, "THEN of one of READERS, for n (0 .. 60): MARKS.",
                "reader(1) marksThen(0, 0) = 0 still marksThen(0, 1) = 1 still marksThen(0, 60) = 60 still",
                BASE + "marksThen(0, 0) = 70 still marksThen(1, 0) = 9999 still marksThen(1, 60) = 9999 still "
                + "marksThen(2, 0) = 44 still marksThen(2, 60) still", SIX + "marked(5, 9) marksThen(5, 0) = 9 still "
                + "marksThen(5, 1) = 17 still");
        b.says(20, "BEYOND.", "marksThen(0, 0) = BEYOND", BASE + "marksThen(-1, 0) = BEYOND marksThen(3, 0) = BEYOND "
                + "marksThen(0, -1) = BEYOND marksThen(0, 61) = BEYOND marksThen(min, 0) = BEYOND "
                + "marksThen(max, 0) = BEYOND marksThen(0, min) = BEYOND marksThen(0, max) = BEYOND", SIX
                + "marksThen(6, 0) = BEYOND");
        b.says(20, THOUGHT, "reader(1) reader(10) year(9999) marksThen(0, 60) = 60 still marksThen(1, 1) = 3 still "
                + "marksThen(1, 2) = 3 still count(1) = 9999", BASE + "year(9999) marksThen(2, 60) still "
                + "marksThen(0, 1) still",
                // y of YEAR 9999 is 7, that of the next is 0, then 1.
                "reader(0) write('y') text(1) year(9999) marksThen(0, 1) = 7 marksThen(0, 2) = 7 marksThen(0, 3) = 8");
        b.says(20, "THEN: JAW of a LION, MARKS of one of READERS, n YEARS on.",
                "reader(1) marked(0, 9938) marksThen(0, 60) = 9998 marked(0, 9939) marksThen(0, 60) = 9999 "
                + "marksThen(0, 59) = 9998 marked(0, 9940) marksThen(0, 60) = 9999 marked(0, 9999) marksThen(0, 0) = 9999 "
                + "marksThen(0, 60) = 9999",
                STEPS + "reader(0) knows(255) marksThen(0, 1) = 1 marksThen(0, 2) = 3 marksThen(0, 60) = 210 year(5) "
                + "marksThen(0, 1) = 6 marksThen(0, 2) = 7");
    }

    private static void laughs(Bounds b) {
        b.says(21, "LAUGHS, at v (0 .. 359).", "laughs(0, 0) = 0 still laughs(1, 0) = 0 still laughs(1, 1) = 1 still "
                + "laughs(1, 359) = NONE jawed(1, 359) laughs(1, 359) = 0 still jawed(1, 358) laughs(1, 359) = 1 still");
        b.says(21, "BEYOND.", BASE + "laughs(-1, 0) = BEYOND laughs(2, 0) = BEYOND laughs(0, -1) = BEYOND "
                + "laughs(0, 360) = BEYOND laughs(1, -1) = BEYOND laughs(1, 360) = BEYOND laughs(min, 0) = BEYOND "
                + "laughs(max, 0) = BEYOND laughs(0, min) = BEYOND laughs(0, max) = BEYOND");
        b.says(21, "NONE: not by 60.", "laughs(1, 60) = 60 still laughs(1, 61) = NONE laughs(0, 1) = NONE",
                "jawed(1, 299) laughs(1, 359) = 60 still jawed(1, 298) laughs(1, 359) = NONE laughs(1, 358) = 60",
                BASE + "text(0) write('0') text(0) laughs(0, 12) = NONE laughs(0, 11) = 0");
        b.says(21, "LAUGHS at v: behind how many YEARS (0 .. 60) JAW of a LION is v or more first.",
                "jawed(1, 300) laughs(1, 299) = 0 laughs(1, 300) = 0 laughs(1, 301) = 1 laughs(1, 359) = 59",
                // JAW goes by 345, 15, 45, ..
                "write('30') text(0) jawed(0, 345) laughs(0, 345) = 0 laughs(0, 346) = NONE jawed(0, 15) "
                + "laughs(0, 345) = 11 laughs(0, 316) = 11 laughs(0, 315) = 10 laughs(0, 46) = 2 laughs(0, 45) = 1 "
                + "laughs(0, 16) = 1 laughs(0, 15) = 0");
        b.says(21, THOUGHT, BASE + "year(9999) laughs(0, 12) = 4 still laughs(0, 359) = NONE count(1) = 9999",
                "year(9999) laughs(1, 60) = 60 still laughs(1, 61) = NONE");
    }

    private static void alike(Bounds b) {
        b.says(22, "ALIKE.", "alike() = 0 still jawed(0, 1) alike() = 1 still", BASE + "jawed(1, 11) alike() = 0 still");
        b.says(22, "NONE: not by 60.", "jawed(0, 60) alike() = 60 still jawed(0, 61) alike() = NONE jawed(0, 59) "
                + "alike() = 59",
                BASE + "text(0) write('1') text(0) alike() = NONE");
        b.says(22, "ALIKE: behind how many YEARS (0 .. 60) both JAWS are one and the same first.",
                "jawed(0, 5) jawed(1, 359) alike() = 6 jawed(0, 0) alike() = 1 jawed(0, 359) alike() = 0",
                "jawed(0, 59) jawed(1, 359) alike() = 60 jawed(0, 60) alike() = NONE",
                // They are alike again and again.
                "write('0') text(0) alike() = 0 untell(0) knows(1) alike() = 0 jawed(0, 359) jawed(1, 0) alike() = 1");
        b.says(22, THOUGHT, "year(9999) jawed(0, 60) alike() = 60 still jawed(0, 61) alike() = NONE count(1) = 9999",
                BASE + "year(9999) jawed(1, 9) alike() = 1 still");
    }

    private static void fits(Bounds b) {
        b.says(23, "FITS, by a SHEET: what 0 how many, 1 the least.",
                sheet(0) + sheet(3, 0, 1) + "fits(0, 0, 0) = 256 still fits(0, 0, 1) = 0 still fits(3, 1, 0) = 128 still "
                + "fits(3, 1, 1) = 0 still fits(3, 0, 0) = 128 still fits(3, 0, 1) = 1 still");
        b.says(23, "BEYOND.", BASE + "fits(-1, 0, 0) = BEYOND fits(4, 0, 0) = BEYOND fits(0, -1, 0) = BEYOND "
                + "fits(0, 2, 0) = BEYOND fits(0, 0, -1) = BEYOND fits(0, 0, 2) = BEYOND fits(min, 0, 0) = BEYOND "
                + "fits(max, 0, 0) = BEYOND fits(0, min, 0) = BEYOND fits(0, max, 0) = BEYOND fits(0, 0, min) = BEYOND "
                + "fits(0, 0, max) = BEYOND");
        b.says(23, "NONE: the SHEET is missing; (what 1) there is none.",
                "fits(0, 0, 0) = NONE fits(0, 0, 1) = NONE fits(3, 1, 0) = NONE fits(3, 1, 1) = NONE",
                sheet(0, 1) + "fits(0, 0, 0) = 0 still fits(0, 0, 1) = NONE fits(0, 1, 0) = 0 fits(0, 1, 1) = NONE "
                + "sheet(0, 0, 0) fits(0, 0, 0) = NONE", BASE + "fits(0, 0, 0) = 0 still fits(0, 0, 1) = NONE "
                + "fits(3, 0, 0) = NONE");
        String many = sheet(0, 0, 1, 2, 3, 4, 5, 6, 7, 8, 9, 10, 11, 12, 13, 14, 15, 16, 17, 18, 19, 20, 21, 22, 23);
        b.says(23, "FITS: a SHEET tells JAW of a LION at this YEAR and those behind it: by how many SECRETS (0 .. 255) that "
                + "is so, all else as it is; the least.",
                sheet(0) + "fits(0, 0, 0) = 256 fits(0, 0, 1) = 0 fits(0, 1, 0) = 256 fits(0, 1, 1) = 0",
                sheet(0, 0) + "fits(0, 0, 0) = 256 jawed(0, 1) fits(0, 0, 0) = 0 fits(0, 1, 0) = 256 put(0, 0, 1) "
                + "fits(0, 0, 0) = 256",
                many + "fits(0, 0, 0) = 4 fits(0, 0, 1) = 63 fits(0, 1, 0) = 4 fits(0, 1, 1) = 0 put(0, 23, 22) "
                + "fits(0, 0, 0) = 0 fits(0, 1, 0) = 0 put(0, 23, 24) fits(0, 0, 0) = 0",
                // SECRETS 255 and 0 alone.
                "happens(0, 255) " + sheet(0, 0, 8) + "fits(0, 0, 0) = 1 fits(0, 0, 1) = 255 fits(0, 1, 0) = 1 "
                + "fits(0, 1, 1) = 0 knows(7) fits(0, 0, 1) = 255 put(0, 1, 9) fits(0, 0, 0) = 0 put(0, 1, 0) "
                + "fits(0, 0, 0) = 1 fits(0, 0, 1) = 0 fits(0, 1, 1) = 255",
                "jawed(0, 359) jawed(1, 359) happens(0, 128) " + sheet(0, 359, 0) + "fits(0, 0, 0) = 128 "
                + "fits(0, 0, 1) = 128 fits(0, 1, 0) = 128 fits(0, 1, 1) = 0 put(0, 1, 360) fits(0, 0, 0) = 0 "
                + "put(0, 1, 359) fits(0, 0, 1) = 0 fits(0, 1, 1) = 128",
                "sheet(0, 32, 2) put(0, 1, 65536) fits(0, 0, 0) = 0 sheet(0, 16, 2) put(0, 1, 65536) fits(0, 0, 0) = 128 "
                + "sheet(0, 8, 2) put(0, 1, 257) fits(0, 0, 0) = 128 fits(0, 0, 1) = 1");
        b.says(23, THOUGHT, many + "year(9999) fits(0, 1, 0) = 4 still fits(0, 1, 1) = 0 still fits(0, 0, 1) = 63 still "
                + "count(1) = 9999",
                sheet(1, 0, 0, 1) + "year(9999) fits(1, 0, 0) = 64 still fits(1, 0, 1) = 16 still fits(1, 1, 1) = 8 still");
    }

    private static void question(Bounds b) {
        b.says(24, "QUESTION, by a SHEET: what 0 the EVENT, 1 how many.",
                sheet(0) + sheet(3) + "question(0, 0, 0) = 127 still question(0, 0, 1) = 70 still "
                + "question(3, 1, 0) = 127 still question(3, 1, 1) = 70 still");
        b.says(24, "BEYOND.", BASE + "question(-1, 0, 0) = BEYOND question(4, 0, 0) = BEYOND question(0, -1, 0) = BEYOND "
                + "question(0, 2, 0) = BEYOND question(0, 0, -1) = BEYOND question(0, 0, 2) = BEYOND "
                + "question(min, 0, 0) = BEYOND question(max, 0, 0) = BEYOND question(0, min, 0) = BEYOND "
                + "question(0, max, 0) = BEYOND question(0, 0, min) = BEYOND question(0, 0, max) = BEYOND");
        b.says(24, "NONE: the SHEET is missing.", "question(0, 0, 0) = NONE question(0, 0, 1) = NONE "
                + "question(3, 1, 1) = NONE",
                BASE + "question(3, 0, 0) = NONE sheet(0, 0, 0) question(0, 0, 0) = NONE");
        b.says(24, "STATE: no SECRET FITS.", sheet(0, 1) + "question(0, 0, 0) = STATE question(0, 0, 1) = STATE "
                + "question(0, 1, 0) = STATE",
                BASE + "question(0, 0, 0) = STATE question(0, 1, 1) = STATE");
        String one = "happens(0, 255) " + sheet(0, 0, 8);
        String two = "happens(0, 127) " + sheet(0, 0, 7);
        b.says(24, "QUESTION: of all EVENTS (0 .. 255) that for which the greatest number of these SECRETS by which the "
                + "LION would have one and the same TURN in this YEAR is least; of several the least; how many that is.",
                // Of one SECRET every EVENT tells as much; of two (127 and 255) those with bit 7 tell more.
                one + "question(0, 0, 0) = 0 question(0, 0, 1) = 1 question(0, 1, 0) = 0 question(0, 1, 1) = 1",
                two + "question(0, 0, 0) = 128 question(0, 0, 1) = 1",
                // SECRET 255 (of LION 1: 0) alone turns otherwise, and that by EVENT 255 alone.
                sheet(0) + "write('(e=15)*b>7') text(0) question(0, 0, 0) = 255 question(0, 0, 1) = 255 "
                + "question(0, 1, 0) = 255 question(0, 1, 1) = 255",
                sheet(0) + "write('0') text(0) question(0, 0, 0) = 0 question(0, 0, 1) = 256 question(0, 1, 0) = 0 "
                + "write('30') text(0) question(0, 0, 0) = 0 question(0, 0, 1) = 256",
                // e is 1 by 241, which has five bits.
                sheet(0) + "write('b*(e=1)') text(0) question(0, 0, 0) = 241 question(0, 0, 1) = 80 question(0, 1, 0) = 241",
                sheet(0) + "write('b*y*30') text(0) question(0, 0, 0) = 0 question(0, 0, 1) = 256 year(1) "
                + "question(0, 0, 0) = 1 question(0, 0, 1) = 128 year(8) question(0, 0, 0) = 0 question(0, 0, 1) = 256");
        b.says(24, THOUGHT, sheet(0) + "write('b*y*30') text(0) year(9999) question(0, 0, 0) = 1 still "
                + "question(0, 0, 1) = 128 still",
                sheet(1, 0, 0, 1) + "year(9999) question(1, 0, 0) = 103 still question(1, 0, 1) = 20 still count(1) = 9999");
    }

    /** A fraction that ODDS are. */
    private static String odds(int reader, int v, int n, int above, int below) {
        String call = "odds(" + reader + ", " + v + ", " + n + ", ";
        return call + "0) = " + above + " " + call + "1) = " + below + " ";
    }

    private static void odds(Bounds b) {
        b.says(25, "ODDS, for v (0 .. 9999), n (0 .. 20): part 0 above, 1 below the line.",
                "reader(0) odds(0, 0, 0, 0) = 1 still odds(0, 0, 0, 1) = 1 still odds(0, 9999, 0, 0) = 0 still "
                + "odds(0, 9999, 0, 1) = 1 still odds(0, 1, 20, 0) = 63 still odds(0, 1, 20, 1) = 64 still "
                + "odds(0, 20, 20, 0) = 1 still odds(0, 20, 20, 1) = 64 still odds(0, 21, 20, 0) = 0 odds(0, 20, 19, 0) = 0 "
                + "odds(0, 19, 19, 1) = 64",
                "reader(0) marked(0, 9998) " + odds(0, 9999, 1, 1, 2) + odds(0, 9998, 1, 1, 1) + odds(0, 9999, 20, 63, 64)
                + "marked(0, 9999) " + odds(0, 9999, 0, 1, 1) + odds(0, 9999, 20, 1, 1),
                BASE + "odds(0, 70, 0, 0) = 1 still odds(0, 71, 0, 0) = 0 still odds(2, 60, 20, 0) still "
                + "odds(2, 60, 20, 1) still");
        b.says(25, "BEYOND.", "odds(0, 0, 0, 0) = BEYOND",
                BASE + "odds(-1, 0, 0, 0) = BEYOND odds(3, 0, 0, 0) = BEYOND odds(0, -1, 0, 0) = BEYOND "
                + "odds(0, 10000, 0, 0) = BEYOND odds(0, 0, -1, 0) = BEYOND odds(0, 0, 21, 0) = BEYOND "
                + "odds(0, 0, 0, -1) = BEYOND odds(0, 0, 0, 2) = BEYOND odds(min, 0, 0, 0) = BEYOND "
                + "odds(max, 0, 0, 0) = BEYOND odds(0, min, 0, 0) = BEYOND odds(0, max, 0, 0) = BEYOND "
                + "odds(0, 0, min, 0) = BEYOND odds(0, 0, max, 0) = BEYOND odds(0, 0, 0, min) = BEYOND "
                + "odds(0, 0, 0, max) = BEYOND",
                SIX + "odds(6, 0, 0, 0) = BEYOND odds(5, 0, 0, 0) = 1");
        b.says(25, "ODDS of one of READERS by v, n: that by a SECRET (0 .. 255), each as likely, its MARKS are v or more n "
                + "YEARS on: a fraction in lowest terms (0 is 0 by 1).",
                "reader(0) happens(0, 255) knows(9) " + odds(0, 0, 1, 1, 1) + odds(0, 1, 1, 255, 256)
                + odds(0, 2, 1, 247, 256) + odds(0, 3, 1, 219, 256) + odds(0, 4, 1, 163, 256) + odds(0, 5, 1, 93, 256)
                + odds(0, 6, 1, 37, 256) + odds(0, 7, 1, 9, 256) + odds(0, 8, 1, 1, 256) + odds(0, 9, 1, 0, 1)
                + "count(2) = 9",
                "reader(0) happens(0, 127) " + odds(0, 7, 1, 1, 128) + odds(0, 1, 1, 127, 128) + "happens(0, 15) "
                + odds(0, 4, 1, 1, 16) + odds(0, 2, 1, 11, 16) + odds(0, 0, 1, 1, 1) + "happens(0, 3) "
                + odds(0, 1, 1, 3, 4) + odds(0, 2, 1, 1, 4) + "happens(0, 1) " + odds(0, 1, 1, 1, 2) + "happens(0, 0) "
                + odds(0, 1, 1, 0, 1) + odds(0, 9999, 20, 0, 1),
                "reader(60) reader(1) happens(0, 255) " + odds(0, 1, 20, 0, 1) + odds(1, 8, 1, 1, 256)
                + odds(1, 1, 1, 255, 256));
        b.says(25, THOUGHT, "reader(0) year(9999) " + odds(0, 20, 20, 1, 64) + odds(0, 1, 1, 1, 2)
                + "odds(0, 1, 20, 0) = 63 still count(1) = 9999", "reader(0) happens(3, 255) year(9999) "
                + odds(0, 8, 1, 1, 256) + odds(0, 9, 1, 0, 1));
    }
}
