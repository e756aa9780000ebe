/** Bounds of promises 11 to 14: THE TAPE, TEXTS and their FAULTS, what they give. */
final class TextBounds {
    private static final String BASE = Bounds.BASE;
    private static final String FULL_TAPE = "feed(-1, 8) ".repeat(7) + "feed(-1, 4) ";

    private TextBounds() {
    }

    static void all(Bounds b) {
        feed(b);
        text(b);
        grammar(b);
        open(b);
        values(b);
        untell(b);
        law(b);
    }

    /** That these are whole TEXTS of USE 0. */
    private static String whole(String... texts) {
        StringBuilder run = new StringBuilder();
        for (String text : texts) {
            run.append("write('").append(text).append("') text(0) = 1 ");
        }
        return run.toString();
    }

    /** That a TEXT of a USE has its FAULT there. */
    private static String fault(int use, String text, int place) {
        return "write('" + text + "') text(" + use + ") = " + (-10 - place) + " ";
    }

    private static String fault(String text, int place) {
        return fault(0, text, place);
    }

    /** What a TEXT of USE 0 gives with b, e, y as 7, 2, -5: within 0 .. 30. */
    private static String gives(String text, int want) {
        return whole(text) + "law(0, 7, 2, -5) = " + want + " ";
    }

    private static void feed(Bounds b) {
        b.says(11, "The n lowest bytes (1 .. 8) of a word, the lowest first, come to THE TAPE: how many there are.",
                "feed(0x7A7A7A7A7A7A7A37, 1) = 1 text(0) = 1 law(0, 0, 0, 0) = 7",
                // 29-2-3-1, 29-2-3 and 29-2-13; the byte above them would be no TEXT.
                "feed(0x312D332D322D3932, 8) = 8 text(0) = 1 law(0, 0, 0, 0) = 23",
                "feed(0x7A332D322D3932, 6) = 6 text(0) = 1 law(0, 0, 0, 0) = 24",
                "feed(0x7A33312D322D3932, 7) = 7 text(0) = 1 law(0, 0, 0, 0) = 14",
                "feed(0x2B39, 2) = 2 feed(0x3231, 2) = 4 text(0) = 1 law(0, 0, 0, 0) = 21 feed(0, 1) = 1",
                "feed(-1, 8) = 8 feed(-9223372036854775808, 8) = 16 feed(9223372036854775807, 1) = 17");
        b.says(11, "BEYOND.", "feed(98, 0) = BEYOND feed(98, 9) = BEYOND text(0) = -10",
                BASE + "feed(98, -1) = BEYOND feed(98, 0) = BEYOND feed(98, 9) = BEYOND feed(98, min) = BEYOND "
                + "feed(98, max) = BEYOND feed(98, 1) = 4");
        b.says(11, "FULL.", FULL_TAPE + "count(6) = 60 feed(0, 1) = FULL feed(0, 8) = FULL count(6) = 60",
                "feed(0, 8) ".repeat(7) + "feed(0, 5) = FULL feed(0, 8) = FULL feed(0, 4) = 60",
                "feed(0, 8) ".repeat(7) + "feed(0, 3) = 59 feed(0, 2) = FULL feed(0, 1) = 60 feed(0, 1) = FULL",
                // What stands stays, and there is place again behind text().
                "write('" + "b+".repeat(29) + "11') count(6) = 60 feed(0x30, 1) = FULL text(0) = 1 law(0, 0, 0, 0) = 11 "
                + "feed(0, 8) = 8",
                FULL_TAPE + "text(0) = -10 feed(-1, 8) = 8");
        b.says(11, "TEXTS are read from THE TAPE (bytes, at most 60):",
                "feed(0, 8) ".repeat(7) + "feed(0, 4) = 60 feed(0, 1) = FULL count(6) = 60");
        b.says(12, "TEXTS are read from THE TAPE (bytes, at most 60):",
                whole("b+".repeat(29) + "12") + "law(0, 0, 9, 9) = 12 law(0, 1, 9, 9) = 30",
                whole("!" + "b+".repeat(29) + "b") + "law(0, 1, 9, 9) = 29 law(0, 0, 9, 9) = 1",
                whole("1+".repeat(28) + "(2)") + "law(0, 0, 0, 0) = 30 " + whole("1-".repeat(29) + "1")
                + "law(0, 0, 0, 0) = 0",
                "feed(0xE2, 1) text(0) = -10", "feed(0x0062, 2) text(0) = -11", "feed(0x162, 2) text(0) = -11 "
                + "feed(0x162, 1) text(0) = 1");
    }

    private static void text(Bounds b) {
        b.says(12, "THE TAPE, which is empty then, is the TEXT of a USE (0, 1), in place of one ahead: 1.",
                BASE + "text(0) = 1 count(6) = 0 law(0, 5, 0, 0) = 12 law(1, 5, 2, 0) = 7",
                BASE + "text(1) = -12 write('7+j') text(1) = 1 count(6) = 0 law(1, 5, 2, 0) = 9 law(0, 5, 0, 0) = 10",
                "write('9') text(0) = 1 text(0) = -10 law(0, 0, 0, 0) = 9 write('8') text(1) = 1 law(0, 0, 0, 0) = 9 "
                + "law(1, 0, 0, 0) = 8 write('7') text(0) = 1 law(0, 0, 0, 0) = 7 law(1, 0, 0, 0) = 8",
                // One ahead is gone, however long it was, and all that it gave.
                whole("b+".repeat(29) + "1", "3") + "law(0, 9, 9, 9) = 3 sign(0, 9) = 3 " + whole("4") + "sign(0, 9) = 4");
        b.says(12, "BEYOND (THE TAPE stays).",
                BASE + "text(-1) = BEYOND text(2) = BEYOND text(min) = BEYOND text(max) = BEYOND count(6) = 3 text(0) = 1 "
                + "law(0, 5, 0, 0) = 12", "text(2) = BEYOND text(-1) = BEYOND count(6) = 0");
        b.says(12, "-10 less the FAULT (no ERROR; the one ahead stays; THE TAPE is empty, too).",
                "write('9') text(0) = 1 " + fault("b+", 2) + "count(6) = 0 law(0, 1, 1, 1) = 9 told(1) = 0 told(2) = 0 "
                + "told(3) = 0 told(4) = 0 told(5) = 0 told(6) = 0",
                fault("7)", 1) + "untell(0) = 0 law(0, 5, 0, 0) = 5 " + fault(1, "7)", 1) + "untell(1) = 0",
                "write('9') text(1) = 1 sign(0, 255) = 0 " + fault(1, "7!", 1) + "law(1, 1, 1, 1) = 9 untell(1) = 1",
                "text(0) = -10 " + FULL_TAPE + "text(0) = -10 count(6) = 0 " + fault("b+".repeat(30), 60) + "count(6) = 0");
        b.says(12, "FAULT: the place of the first byte with which no TEXT goes on; how many there are, if it ends too "
                + "early.",
                "text(0) = -10 text(1) = -10 " + fault("+", 0) + fault("b+", 2) + fault("b++", 2) + fault("(b", 2)
                + fault("(", 1) + fault("!", 1) + fault("b+".repeat(29) + "bb", 59) + fault("b+".repeat(30), 60)
                + fault("(" + "b+".repeat(29) + "b", 60) + fault("z" + "b".repeat(59), 0) + fault("b+c+)", 2)
                + fault("b)+(", 1));
    }

    private static void grammar(Bounds b) {
        b.says(12, "T: A { | A }.", whole("b", "b|e", "b|e|y", "b" + "|e".repeat(29)) + fault("|", 0) + fault("|b", 0)
                + fault("b|", 2) + fault("b||e", 2) + fault("b|e|", 4), gives("0|0", 0) + gives("0|5", 1) + gives("5|0", 1)
                + gives("0|0|7", 1) + gives("1|0&0", 1) + gives("0&0|1", 1) + gives("2|0=1", 1) + gives("0|2>1", 1));
        b.says(12, "A: B { & B }.", whole("b&e", "b&e&y", "b" + "&e".repeat(29)) + fault("&", 0) + fault("&b", 0)
                + fault("b&", 2) + fault("b&&e", 2), gives("1&1", 1) + gives("1&0", 0) + gives("0&1", 0) + gives("1&1&0", 0)
                + gives("3&2>1", 1) + gives("2&1<2", 1));
        b.says(12, "B: S, or S < S, S = S, S > S.",
                whole("b<e", "b=e", "b>e", "b<e&e<y", "b<e|e>y", "b<(e<y)", "(b<e)<y", "!(b=e)=y") + fault("b<e<y", 3)
                + fault("b=e=y", 3) + fault("b>e>y", 3) + fault("b<e>y", 3) + fault("b>e=y", 3) + fault("(b<e<y)", 4)
                + fault("<b", 0) + fault("b<", 2) + fault("b<=e", 2) + fault("b=<e", 2) + fault("b<b+e<y", 5),
                gives("6<7", 1) + gives("7<7", 0) + gives("8<7", 0) + gives("6=7", 0) + gives("7=7", 1) + gives("8=7", 0)
                + gives("6>7", 0) + gives("7>7", 0) + gives("8>7", 1) + gives("y<0", 1) + gives("0>y", 1)
                + gives("1+1<3", 1) + gives("3>1+1", 1) + gives("2=1+1", 1) + gives("1+(1<3)", 2));
        b.says(12, "S: P { + P, - P }.", whole("b+e", "b-e", "b+e-y+1", "b" + "-e".repeat(29)) + fault("+b", 0)
                + fault("-b", 0) + fault("b+", 2) + fault("b-", 2) + fault("b+-e", 2) + fault("b--e", 2),
                gives("9-2-3", 4) + gives("9-2+3", 10) + gives("9+2-3", 8) + gives("2+3*4", 14) + gives("3*4-2", 10)
                + gives("9-6/3", 7));
        b.says(12, "P: Q { * Q, / Q, % Q }.", whole("b*e", "b/e", "b%e", "b*e/y%1", "b" + "%e".repeat(29)) + fault("*b", 0)
                + fault("/b", 0) + fault("%b", 0) + fault("b*", 2) + fault("b/", 2) + fault("b%", 2) + fault("b**e", 2)
                + fault("b*-e", 2),
                gives("20/2/5", 2) + gives("20/2*5%9", 5) + gives("20%7*2", 12) + gives("2*7%5", 4) + gives("20/(2*5)", 2));
        b.says(12, "Q: a NUMBER of 1 to 4 digits, a NAME, ! Q, ( T ).",
                whole("0", "9", "10", "999", "9999", "0000", "0007", "b", "e", "y", "!b", "!0", "!!9999",
                        "(b)", "((b|e))", "!(b|e)", "(!b)")
                + fault("10000", 4) + fault("00000", 4) + fault("99999999", 4) + fault("1+12345", 6) + fault("/", 0)
                + fault(":", 0) + fault("1:", 1) + fault("1/", 2) + fault("bb", 1) + fault("b1", 1) + fault("1b", 1)
                + fault("be", 1) + fault("B", 0) + fault("a", 0) + fault("c", 0) + fault("r", 0) + fault("j", 0)
                + fault(1, "b", 0) + fault(1, "e", 0) + fault("b!", 1) + fault("b(", 1) + fault("b(e)", 1)
                + fault("(b)e", 3) + fault("(b)1", 3) + fault("()", 1) + fault(")", 0) + fault("b)", 1) + fault("(b))", 3)
                + fault("(b", 2) + fault("!)", 1) + fault("!+b", 1) + fault("(+b)", 1) + fault("(b+)", 3),
                "write('r+j+y') text(1) = 1",
                gives("0", 0) + gives("9", 9) + gives("0007", 7) + gives("9999-9990", 9) + gives("1000/100", 10)
                + gives("12+3", 15) + gives("!b+9", 9) + gives("!(b+9)", 0) + gives("!0*7", 7) + gives("!!b", 1)
                + gives("2*(b+e)", 18) + gives("((30))", 30));
        b.says(12, "No blanks.", fault(" ", 0) + fault(" b", 0) + fault("b ", 1) + fault("b +e", 1) + fault("b+ e", 2)
                + fault("( b)", 1) + fault("(b )", 2) + fault("! b", 1) + fault("1 2", 1) + "feed(0x0962, 2) text(0) = -11 "
                + "feed(0x0A62, 2) text(0) = -11 feed(0x6209, 2) text(0) = -10");
    }

    private static void open(Bounds b) {
        b.says(12, "At most 5 of ! and ( are open at once.",
                whole("!!!!!b", "(((((b)))))", "!(!(!b))", "(!(!(b)))", "!!!!(b)", "((((!b))))") + gives("!!!!!b", 0)
                + gives("!!!!b", 1),
                fault("!!!!!!b", 5) + fault("((((((b", 5) + fault("!(!(!!b))", 5) + fault("(!(!((b)))", 5)
                + fault("!!!!!(b)", 5) + fault("(((((!b)))))", 5) + fault("(((((b+(", 7) + fault("(((((!", 5)
                + fault("!!!!!!", 5) + fault("((((((", 5),
                // What is closed is open no more: a ! behind its Q, a ( behind its ).
                whole("!!!!!b+!!!!!b", "(((((b)))))*(((((b)))))", "((((!b+!b))))", "((((!b+(b)+!e))))",
                        "(((((b)+b)+b)+(b))+((b)))", "!!!!!b|(((((b)))))", "((((b))))+!!!!(b)")
                + fault("((((!b+!(b", 8) + fault("((((!b+!!b", 8) + fault("!!!!!b+!!!!!!b", 12) + fault("(((((b)+((b", 9),
                fault("!(((((b", 5) + fault("(((((b))))))", 11) + fault("(((((b))))", 10) + fault("!!!!!", 5)
                + fault("(((((", 5));
    }

    private static void values(Bounds b) {
        b.says(12, "Ints that wrap;",
                gives("9999*9999*9999<0", 1) + gives("256*256*256*128<0", 1) + gives("256*256*256*128-1>0", 1)
                + gives("256*256*256*256", 0) + gives("256*256*256*256+7", 7)
                + gives("9999*9999*9999*9999=9999*9999*(9999*9999)", 1),
                whole("b+e<0") + "law(0, max, 1, 0) = 1 law(0, max, 0, 0) = 0 " + whole("b-e>0") + "law(0, min, 1, 0) = 1 "
                + whole("0-b=b") + "law(0, min, 0, 0) = 1 " + whole("b*e") + "law(0, 65536, 65536, 0) = 0 "
                + "law(0, 65537, 65536, 0) = 30");
        b.says(12, "/ cut, % the rest that it leaves, both by 0 are 0;",
                whole("b/e+4") + "law(0, 7, 2, 0) = 7 law(0, -7, 2, 0) = 1 law(0, 7, -2, 0) = 1 law(0, -7, -2, 0) = 7 "
                + "law(0, 1, 2, 0) = 4 law(0, -1, 2, 0) = 4 law(0, 7, 0, 0) = 4 law(0, 0, 0, 0) = 4 law(0, min, 0, 0) = 4 "
                + "law(0, min, -1, 0) = 0",
                whole("b%e+4") + "law(0, 7, 2, 0) = 5 law(0, -7, 2, 0) = 3 law(0, 7, -2, 0) = 5 law(0, -7, -2, 0) = 3 "
                + "law(0, 6, 2, 0) = 4 law(0, 7, 0, 0) = 4 law(0, -7, 0, 0) = 4 law(0, min, 0, 0) = 4 "
                + "law(0, min, -1, 0) = 4 law(0, max, min, 0) = 0 law(0, 5, min, 0) = 9",
                whole("b/e<0") + "law(0, min, -1, 0) = 1 law(0, min, 0, 0) = 0");
        b.says(12, "Quotients are cut toward 0.", whole("b/e+4") + "law(0, -3, 2, 0) = 3 law(0, 3, -2, 0) = 3 "
                + "law(0, 3, 2, 0) = 5");
        b.says(12, "| & < = > ! are 1 or 0, what is not 0 being true;",
                gives("7|8", 1) + gives("2&4", 1) + gives("7|0", 1) + gives("0|y", 1) + gives("y&y", 1) + gives("0&0", 0)
                + gives("0|0", 0) + gives("!7", 0) + gives("!y", 0) + gives("!0", 1)
                + gives("(6<7)+(7=7)+(8>7)+(1|1)+(1&1)+!0", 6) + gives("(7<7)+(6=7)+(7>7)+(0|0)+(0&1)+!1+9", 9),
                whole("b&e") + "law(0, min, max, 0) = 1 law(0, min, 0, 0) = 0 law(0, -1, -1, 0) = 1 law(0, 1, 2, 0) = 1");
        b.says(12, "all is worked out.", gives("0&7/0", 0) + gives("1|7/0", 1) + gives("0&7%0|1", 1)
                + gives("(0&1)+(1|1)*5", 5) + gives("0*(7/0)+3", 3));
        b.says(12, "USES: 0 TURN: NAMES b SIGNS, e the rest of the EVENT by 16, y the rest of YEAR by 8;",
                whole("b") + "knows(255) sign(0, 0) = 0 sign(0, 255) = 8 sign(1, 255) = 0 sign(1, 0) = 0 " + whole("e")
                + "sign(0, 0) = 0 sign(0, 15) = 15 sign(0, 16) = 0 sign(0, 17) = 1 sign(1, 240) = 0 sign(1, 255) = 15 "
                + whole("y") + "sign(0, 9) = 0 year(7) sign(0, 9) = 7 year(8) sign(0, 9) = 0 year(9999) sign(0, 9) = 7 "
                + "year(9992) sign(1, 9) = 0",
                // YEAR beyond 9999 is thought of: y of 10000 is 0.
                whole("y") + "year(9999) then(0, 1) = 7 then(0, 2) = 7 then(0, 3) = 8");
        b.says(12, "1 MARKS: NAMES r what the KIND READS, j the rest by 10 of JAW of the LION it LOOKS AT, y the rest of "
                + "YEAR by 8;",
                "reader(0) knows(255) happens(0, 255) write('r') text(1) = 1 years(1) = 8",
                "reader(0) knows(255) happens(0, 255) write('r') text(1) = 1 knows(0) years(1) = 0",
                "reader(0) reader(1) knows(1) jawed(0, 8) jawed(1, 10) write('j') text(1) = 1 years(1) = 9 "
                + "readerIs(0, 2) = 9 readerIs(1, 2) = 0",
                "reader(0) reader(1) knows(1) jawed(0, 9) jawed(1, 359) write('j') text(1) = 1 years(1) = 9 "
                + "readerIs(0, 2) = 0 readerIs(1, 2) = 9",
                "reader(0) knows(1) jawed(0, 359) write('j') text(1) = 1 years(1) = 0",
                "reader(0) write('y') text(1) = 1 years(1) = 0 year(7) years(1) = 7 years(1) = 7 year(9998) years(1) = 13");
    }

    private static void untell(Bounds b) {
        b.says(13, "There is no TEXT of a USE any more: 1 if there was, else 0.",
                BASE + "untell(0) = 1 law(0, 5, 1, 1) = 5 sign(0, 255) = 3 law(1, 5, 2, 0) = 7 untell(0) = 0 still "
                + "untell(1) = 1 law(1, 5, 2, 0) = 5 untell(1) = 0 still count(6) = 3", "untell(0) = 0 still "
                + "untell(1) = 0 still",
                // The one that stood ahead of another doesn't come back.
                whole("1", "2") + "untell(0) = 1 untell(0) = 0 law(0, 9, 9, 9) = 9 " + whole("3") + "untell(0) = 1");
        b.says(13, "BEYOND.", BASE + "untell(-1) = BEYOND untell(2) = BEYOND untell(min) = BEYOND untell(max) = BEYOND "
                + "untell(0) = 1 untell(1) = 1", "untell(2) = BEYOND");
    }

    private static void law(Bounds b) {
        b.says(14, "What a USE gives with its NAMES in order as a, b, c (any number).",
                BASE + "law(0, 5, 3, 9) = 11 still law(1, 5, 3, 9) = 6 still law(0, min, max, min) = 1 still "
                + "law(1, 0, min, 0) = 0 still",
                whole("b") + "law(0, 1, 2, 3) = 1 " + whole("e") + "law(0, 1, 2, 3) = 2 " + whole("y")
                + "law(0, 1, 2, 3) = 3",
                "write('r') text(1) law(1, 1, 2, 3) = 1 write('j') text(1) law(1, 1, 2, 3) = 2 write('y') text(1) "
                + "law(1, 1, 2, 3) = 3",
                whole("b+e*2+y*3") + "law(0, 8, 0, 0) = 8 law(0, 9, 0, 0) = 9 law(0, 0, 1, 0) = 2 law(0, 0, 15, 0) = 30 "
                + "law(0, 0, 0, 1) = 3 law(0, 0, 0, 8) = 24 law(0, -1, 1, 0) = 1 law(0, 3, -1, 1) = 4 law(0, 7, 0, -1) = 4 "
                + "law(0, 8, 0, 0) = 8",
                // Beside one another, these may not be taken for one and the same.
                whole("b+e*2+y*3") + "law(0, 0, 16, 0) = 30 law(0, 0, 0, 1) = 3 law(0, 9, 0, 0) = 9 law(0, 0, 1, 0) = 2 "
                + "law(0, -1, 0, 1) = 2 law(0, 8, 15, 0) = 30 law(0, 0, -1, 1) = 1 law(0, 0, 15, 0) = 30 "
                + "law(0, 0, 0, 7) = 21 law(0, 0, 0, 8) = 24",
                "write('r+j*2+y*3') text(1) law(1, 0, 10, 0) = 20 law(1, 0, 0, 1) = 3 law(1, 66, -30, 0) = 6 "
                + "law(1, 0, 1, 0) = 2",
                "write('r+j*2+y*3') text(1) law(1, 65, 0, 0) = 40 law(1, 66, 0, -20) = 6 law(1, 0, 9, 0) = 18 "
                + "law(1, 0, 10, 0) = 20 law(1, 0, 0, 7) = 21 law(1, 0, 0, 8) = 24 law(1, 0, 0, -1) = 0 "
                + "law(1, 9, 9, 7) = 40");
        b.says(14, "BEYOND.", BASE + "law(-1, 0, 0, 0) = BEYOND law(2, 0, 0, 0) = BEYOND law(min, 0, 0, 0) = BEYOND "
                + "law(max, 0, 0, 0) = BEYOND");
        b.says(14, "held within 0 .. 30; without a TEXT b (held likewise).",
                "law(0, -1, 9, 9) = 0 law(0, 0, 9, 9) = 0 law(0, 1, 9, 9) = 1 law(0, 29, 9, 9) = 29 law(0, 30, 9, 9) = 30 "
                + "law(0, 31, 9, 9) = 30 law(0, min, 9, 9) = 0 law(0, max, 9, 9) = 30",
                whole("e") + "law(0, 9, -1, 9) = 0 law(0, 9, 0, 9) = 0 law(0, 9, 1, 9) = 1 law(0, 9, 29, 9) = 29 "
                + "law(0, 9, 30, 9) = 30 law(0, 9, 31, 9) = 30 law(0, 9, min, 9) = 0 law(0, 9, max, 9) = 30");
        b.says(14, "held within 0 .. 40; without a TEXT r (held likewise).",
                "law(1, -1, 9, 9) = 0 law(1, 0, 9, 9) = 0 law(1, 1, 9, 9) = 1 law(1, 39, 9, 9) = 39 law(1, 40, 9, 9) = 40 "
                + "law(1, 41, 9, 9) = 40 law(1, min, 9, 9) = 0 law(1, max, 9, 9) = 40",
                "write('y') text(1) law(1, 9, 9, -1) = 0 law(1, 9, 9, 0) = 0 law(1, 9, 9, 1) = 1 law(1, 9, 9, 39) = 39 "
                + "law(1, 9, 9, 40) = 40 law(1, 9, 9, 41) = 40 law(1, 9, 9, min) = 0 law(1, 9, 9, max) = 40");
    }
}
