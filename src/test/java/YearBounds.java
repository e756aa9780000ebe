/** Bounds of promises 15 to 18: YEARS, what READERS read in them, DRAWS, YEAR, z. */
final class YearBounds {
    private static final String BASE = Bounds.BASE;
    private static final String SIX = "reader(0) reader(11) reader(22) reader(33) reader(44) reader(55) ";
    /** The EVENT in place p has p + 1 bits. */
    private static final String STEPS =
            "happens(0, 1) happens(1, 3) happens(2, 7) happens(3, 15) happens(4, 31) happens(5, 63) ";

    private YearBounds() {
    }

    static void all(Bounds b) {
        years(b);
        aYear(b);
        reads(b);
        loose(b);
        year(b);
        seed(b);
    }

    private static void years(Bounds b) {
        b.says(15, "n (1 .. 60) YEARS go by: MARKS of all together.",
                "years(1) = 0 count(1) = 1 years(60) = 0 count(1) = 61 count(3) = 0 count(4) = 61",
                "reader(1) years(1) = 1 years(60) = 61 years(59) = 120 count(1) = 120",
                SIX + "marked(0, 9999) marked(1, 9999) marked(2, 9999) marked(3, 9999) marked(4, 9999) marked(5, 9999) "
                + "years(1) = 59994 years(60) = 59994",
                "reader(0) marked(0, 7) reader(60) marked(1, 8) years(1) = 15 count(5) = 15");
        b.says(15, "BEYOND.", BASE + "years(0) = BEYOND years(61) = BEYOND years(-1) = BEYOND years(min) = BEYOND "
                + "years(max) = BEYOND", "years(61) = BEYOND years(0) = BEYOND count(1) = 0 count(4) = 0");
        b.says(15, "STATE: YEAR would be above 9999.", "year(9998) years(1) = 0 count(1) = 9999 years(1) = STATE "
                + "count(1) = 9999",
                "year(9939) years(60) = 0 count(1) = 9999", "year(9940) years(60) = STATE years(59) = 0 count(1) = 9999",
                BASE + "year(9999) years(1) = STATE years(60) = STATE", BASE + "year(9998) years(2) = STATE years(1) "
                + "count(1) = 9999");
        b.says(15, "YEAR (0 .. 9999; 0 at first).", "count(1) = 0 years(1) count(1) = 1 year(9998) years(1) count(1) = 9999 "
                + "years(1) = STATE");
    }

    private static void aYear(Bounds b) {
        b.says(15, "A YEAR goes by: by the EVENT in the place that is the rest of YEAR by 6 both LIONS TURN: JAW is so much "
                + "more, by 360 what is left.",
                STEPS + "knows(255) years(1) count(3) = 1 years(1) count(3) = 3 years(1) count(3) = 6 years(1) "
                + "count(3) = 10 years(1) count(3) = 15 years(1) count(3) = 21 years(1) count(3) = 22 count(4) = 0",
                STEPS + "knows(255) year(5) years(1) count(3) = 6 year(6) years(1) count(3) = 7 year(9998) years(1) "
                + "count(3) = 10 year(0) years(1) count(3) = 11",
                STEPS + "year(5) years(1) count(4) = 6 years(1) count(4) = 7 count(3) = 0",
                STEPS + "knows(9) year(3) years(1) count(3) = 2 count(4) = 2",
                // What is left by 360, of the least and the greatest that JAW can be with a TURN.
                "knows(1) jawed(0, 359) jawed(1, 359) years(1) count(3) = 0 count(4) = 359",
                "jawed(0, 359) jawed(1, 359) years(1) count(3) = 359 count(4) = 0",
                "write('30') text(0) jawed(0, 330) jawed(1, 329) years(1) count(3) = 0 count(4) = 359 years(1) "
                + "count(3) = 30 count(4) = 29",
                "write('30') text(0) jawed(0, 359) jawed(1, 331) years(1) count(3) = 29 count(4) = 1 years(11) "
                + "count(3) = 359 count(4) = 331",
                "write('0') text(0) jawed(0, 359) years(60) count(3) = 359 count(4) = 0");
        b.says(15, "Then each of READERS LOOKS AT one, by JAWS as they are then: MARKS are more by what the TEXT of that "
                + "USE gives (9999 at most).",
                // A CHILD, by JAWS that were 0 and so much; LION 0 turns by 7, LION 1 doesn't.
                "reader(30) happens(0, 127) knows(255) jawed(1, 7) years(1) = 1",
                "reader(30) happens(0, 127) knows(255) jawed(1, 6) years(1) = 0",
                "reader(30) happens(0, 127) knows(255) jawed(0, 359) jawed(1, 6) years(1) = 1",
                "reader(30) happens(0, 127) knows(255) jawed(0, 359) jawed(1, 5) years(1) = 0",
                "reader(0) happens(0, 255) knows(255) marked(0, 9990) years(1) = 9998 marked(0, 9991) year(0) "
                + "years(1) = 9999 marked(0, 9992) year(0) years(1) = 9999 marked(0, 9999) year(0) years(1) = 9999",
                "reader(0) knows(1) marked(0, 9998) years(1) = 9999 year(0) years(1) = 9999",
                "reader(0) reader(1) write('40') text(1) years(1) = 80 marked(0, 9958) years(1) = 10078 years(1) = 10119 "
                + "readerIs(0, 2) = 9999 readerIs(1, 2) = 120 years(60) = 12519",
                "reader(0) write('0-1') text(1) marked(0, 5) years(60) = 5 write('41') text(1) years(1) = 45");
        b.says(15, "YEAR is 1 more.", "years(1) count(1) = 1 years(2) count(1) = 3 year(9998) years(1) count(1) = 9999",
                // A SCHOLAR looks by the YEAR that goes by, not by the next.
                "reader(10) knows(1) happens(1, 1) write('0') text(0) write('j') text(1) jawed(0, 1) jawed(1, 2) "
                + "years(1) = 1 years(1) = 3");
        // All is of this YEAR: y of a TURN and of MARKS, too.
        b.says(15, "YEAR is 1 more.", "reader(0) write('y') text(0) write('y*8') text(1) year(1) years(1) = 8 count(3) = 1 "
                + "count(4) = 1 years(1) = 24 count(3) = 3");
    }

    /** MARKS that one reader of this KIND and m has of one YEAR. */
    private static String marks(String ahead, int km, int want) {
        return "reader(0) become(0, " + km + ") " + ahead + " years(1) = " + want;
    }

    private static void reads(Bounds b) {
        // LION 0 turns by 5, LION 1 by 3, to JAWS 17 and 7; in YEAR 0.
        String turn = "happens(0, 255) knows(31) jawed(0, 12) jawed(1, 4) ";
        // Both turn by 30; what is read is told less 30.
        String most = "write('30') text(0) write('r-30') text(1) ";
        b.says(15, "READS (by the TURN of the LION it LOOKS AT): GAZER: TURN.", marks(turn, 0, 5), marks(turn, 1, 3),
                marks(turn, 8, 5),
                marks(turn, 9, 3), marks("write('30') text(0)", 0, 30), marks("write('0') text(0)", 9, 0));
        b.says(15, "SCHOLAR: twice GAZER's, and the rest by 3 of JAW of the LION it LOOKS AT.", marks(turn, 10, 12),
                marks(turn + "year(6)", 19, 12), marks(turn + "happens(1, 255) year(1)", 10, 7),
                marks("write('0') text(0) jawed(0, 0)", 10, 0), marks("write('0') text(0) jawed(0, 2)", 10, 2),
                marks("write('0') text(0) jawed(0, 3)", 10, 0), marks("write('0') text(0) jawed(0, 359)", 10, 2),
                marks("write('0') text(0) jawed(0, 358)", 10, 1), marks("write('1') text(0) jawed(0, 359)", 10, 2),
                marks(most + "jawed(0, 332)", 10, 32), marks(most + "jawed(0, 330)", 10, 30),
                marks("write('30') text(0)", 10, 40));
        b.says(15, "DEPUTY: as GAZER, and m.", marks(turn, 20, 5), marks(turn, 23, 6), marks(turn, 24, 9),
                marks(turn, 25, 10),
                marks(turn, 26, 9), marks(turn, 29, 14), marks("write('30') text(0)", 29, 39),
                marks("write('0') text(0)", 20, 0));
        b.says(15, "CHILD: the rest of GAZER's by 2.", marks(turn, 30, 1), marks("write('30') text(0)", 39, 0),
                marks("write('29') text(0)", 39, 1), marks("write('0') text(0)", 30, 0), marks("write('1') text(0)", 30, 1),
                marks("write('2') text(0)", 30, 0));
        b.says(15, "ENEMY: as SCHOLAR (by the LION that ENEMY LOOKS AT), and 3.", marks(turn, 40, 10),
                marks(turn + "happens(1, 255) year(1)", 49, 15), marks("write('0') text(0)", 40, 3),
                marks("write('0') text(0) jawed(1, 359)", 40, 5), marks("write('0') text(0) jawed(0, 359)", 40, 3),
                marks(most + "jawed(1, 332)", 40, 35), marks(most + "jawed(1, 330)", 40, 33),
                marks("write('30') text(0)", 40, 40));
        b.says(15, "CLERK: half of DEPUTY's (cut), and how many READERS there are.", marks(turn, 50, 3), marks(turn, 53, 4),
                marks(turn, 54, 5), marks(turn, 55, 6), marks(turn, 59, 8), marks("write('0') text(0)", 50, 1),
                marks("write('1') text(0)", 50, 1), marks("write('2') text(0)", 50, 2), marks("write('30') text(0)", 59, 20),
                "write('0') text(0) reader(50) reader(60) reader(60) reader(60) reader(60) years(1) = 5 reader(60) "
                + "years(1) = 11");
        b.says(15, "TOURIST: as GAZER, if m is 9; else 0.", marks(turn, 69, 5), marks(turn, 68, 0), marks(turn, 60, 0),
                marks(turn, 61, 0), marks(turn + "jawed(1, 0)", 69, 5), marks("write('30') text(0)", 69, 30),
                marks(turn + "write('r+9') text(1)", 68, 9), marks(turn + "write('r+9') text(1)", 69, 14));
    }

    private static void loose(Bounds b) {
        b.says(16, "n (1 .. 30) YEARS BY DRAWS: likewise.",
                "loose(1) = 0 count(1) = 1 loose(30) = 0 count(1) = 31", "reader(60) marked(0, 9999) reader(60) "
                + "marked(1, 1) loose(1) = 10000",
                "reader(0) knows(126) loose(1) = 6 count(3) = 6 count(4) = 0 count(1) = 1",
                "reader(0) knows(255) marked(0, 9999) loose(30) = 9999 count(1) = 30");
        b.says(16, "BEYOND.", BASE + "loose(0) = BEYOND loose(31) = BEYOND loose(-1) = BEYOND loose(min) = BEYOND "
                + "loose(max) = BEYOND",
                "loose(31) = BEYOND loose(0) = BEYOND count(1) = 0 count(9) = 1");
        b.says(16, "STATE: YEAR would be above 9999.", "year(9998) loose(1) = 0 count(1) = 9999 loose(1) = STATE "
                + "count(9) = 1103527590",
                "year(9969) loose(30) = 0 count(1) = 9999", "year(9970) loose(30) = STATE count(9) = 1 loose(29) = 0 "
                + "count(1) = 9999",
                BASE + "year(9999) loose(1) = STATE loose(30) = STATE", BASE + "year(9998) loose(2) = STATE loose(1) "
                + "count(1) = 9999");
        b.says(16, "BY DRAWS a YEAR: a draw: the EVENT for this YEAR alone is its rest by 256 (EVENTS in places stay as "
                + "they are); then a YEAR.",
                // 1103527590 >>> 8 is 16838 * 256 + 126.
                "knows(126) loose(1) count(3) = 6 count(4) = 0 happens(0, 1) = 1 happens(1, 2) = 2 happens(5, 32) = 32",
                "knows(129) loose(1) count(3) = 0 count(4) = 6 years(1) count(3) = 0 count(4) = 7",
                "write('e') text(0) loose(1) count(3) = 14 count(4) = 14",
                "reader(30) write('y') text(0) write('j*2+y') text(1) year(3) loose(1) = 9 count(1) = 4",
                // A draw by 256 with nothing left, and with all: z is 0x00E10000, 0xFFABFFEF.
                "seed(" + before(0x00E10000) + ") knows(255) loose(1) count(9) = 14745600 count(3) = 0 count(4) = 0",
                "seed(" + before(0xFFABFFEF) + ") knows(255) loose(1) count(9) = -5505041 count(3) = 8 count(4) = 0");
        b.says(16, "DRAWS: z is told (1 at first); each makes it z * 1103515245 + 12345 (an int), and gives z >>> 8.",
                "count(9) = 1 loose(1) count(9) = 1103527590 loose(1) count(9) = -1770082073 loose(1) count(9) = 662824084",
                "loose(3) count(9) = 662824084", "seed(0) knows(48) loose(1) count(9) = 12345 count(3) = 2 count(4) = 0",
                // Negative ones: 3191464396 >>> 8 is 48697 * 256 + 225.
                "seed(-1) knows(225) loose(1) count(9) = -1103502900 count(3) = 4 count(4) = 0",
                "seed(max) knows(225) loose(1) count(9) = 1043980748 count(3) = 4 count(4) = 0",
                "seed(min) knows(48) loose(1) count(9) = -2147471303 count(3) = 2 count(4) = 0");
    }

    /** The z of which a draw makes this one: what 1103515245 is times 1 by, found by doubling how many bits are right. */
    private static int before(int z) {
        int inverse = 1;
        for (int i = 0; i < 5; i++) {
            inverse *= 2 - 1103515245 * inverse;
        }
        return (z - 12345) * inverse;
    }

    private static void year(Bounds b) {
        b.says(17, "YEAR becomes v: what it was.", BASE + "year(9999) = 1234 count(1) = 9999 year(0) = 9999 count(1) = 0 "
                + "year(1) = 0 count(3) = 11 count(4) = 12 count(5) = 10113");
        b.says(17, "BEYOND.", BASE + "year(-1) = BEYOND year(10000) = BEYOND year(min) = BEYOND year(max) = BEYOND "
                + "year(0) = 1234");
        b.says(17, "YEAR (0 .. 9999; 0 at first).", "year(0) = 0 year(9999) = 0 year(10000) = BEYOND year(-1) = BEYOND "
                + "year(0) = 9999");
    }

    private static void seed(Bounds b) {
        b.says(18, "z becomes v: what it was (any number).",
                "seed(0) = 1 seed(max) = 0 seed(min) = max seed(-1) = min seed(-1000000001) = -1 "
                + "seed(-1000000006) = -1000000001 seed(7) = -1000000006 count(9) = 7 told(1) = 0 told(6) = 0", BASE
                + "seed(5) = -9 count(9) = 5");
    }
}
