/** Bounds of promises 26 to 38: VOICES, SHEETS, IMAGES, numbers that wait, what is told. */
final class SheetBounds {
    private static final String BASE = Bounds.BASE;
    private static final String SIX = "reader(0) reader(11) reader(22) reader(33) reader(44) reader(55) ";
    private static final String PARTS = "13 parts: x by (m - k), cut (PARTED if that is 0; that is all that "
                + "voice() answers then).";

    private SheetBounds() {
    }

    static void all(Bounds b) {
        voice(b);
        bodies(b);
        trace(b);
        sheet(b);
        put(b);
        move(b);
        markAll(b);
        judge(b);
        image(b);
        restore(b);
        tell(b);
        check(b);
        count(b);
        told(b);
    }

    private static void voice(Bounds b) {
        b.says(26, "A VOICE of one: any number.",
                BASE + "voice(0, 0, 7) = 7 voice(0, 1, 7) = 14 voice(0, 2, 7) = 2 voice(0, 3, 9) = 2 voice(2, 0, 7) = 9",
                SIX + "voice(5, 0, 7) = 12 voice(5, 1, 7) = -26 voice(0, 0, 0) = 0",
                // Answers that look like ERRORS are none.
                "reader(0) voice(0, 0, -1000000001) = -1000000001 voice(0, 0, -1000000006) = -1000000006 "
                + "voice(0, 0, min) = min voice(0, 0, max) = max told(1) = 0 told(6) = 0");
        b.says(26, "BEYOND.", "voice(0, 0, 0) = BEYOND", BASE + "voice(-1, 0, 0) = BEYOND voice(3, 0, 0) = BEYOND "
                + "voice(0, -1, 0) = BEYOND voice(0, 4, 0) = BEYOND voice(min, 0, 0) = BEYOND voice(max, 0, 0) = BEYOND "
                + "voice(0, min, 0) = BEYOND voice(0, max, 0) = BEYOND", SIX + "voice(6, 0, 0) = BEYOND voice(5, 0, 0) = 5");
        b.says(26, "PARTED.", "reader(0) voice(0, 3, 7) = PARTED voice(0, 3, 0) = PARTED voice(0, 3, min) = PARTED "
                + "voice(0, 2, 7) = 14",
                BASE + "become(0, 0) voice(0, 3, 9) = PARTED become(1, 11) voice(1, 3, 9) = PARTED become(2, 42) "
                + "voice(2, 3, 9) = PARTED told(6) = 3 voice(2, 1, 0) = -12", SIX + "become(5, 5) voice(5, 3, 1) = PARTED "
                + "become(5, 6) voice(5, 3, 1) = 1");
        b.says(26, "VOICES of one of READERS, with a number x (ints that wrap); k is the number, m as told: 0 stops, 1 "
                + "reads, 2 asks, 3 parts.",
                "reader(0) reader(9) voice(1, 0, max) = min voice(1, 1, max) = 0 voice(1, 1, 1073741822) = 2147483646 "
                + "voice(1, 1, 1073741823) = min voice(1, 2, min) = -7 voice(1, 2, -1) = -9 voice(0, 2, min) = 0 "
                + "voice(1, 2, 1073741823) = 2147483639",
                "reader(0) reader(0) voice(1, 3, min) = min voice(1, 3, max) = -2147483647 voice(1, 3, 0) = 0",
                "reader(10) reader(40) reader(20) reader(50) voice(0, 0, min) = 2147483644 voice(1, 0, max) = 2147483636 "
                + "voice(2, 1, 1073741822) = min voice(3, 1, max) = -6 voice(3, 1, -5) = 2");
    }

    /** Each VOICE of reader 2 with m 5, as one of a KIND, at x 7. */
    private static String voices(int kind, int stops, int reads, int asks, int parts) {
        return "reader(0) reader(0) reader(" + (10 * kind + 5) + ") voice(2, 0, 7) = " + stops + " voice(2, 1, 7) = "
                + reads + " voice(2, 2, 7) = " + asks + " voice(2, 3, 7) = " + parts;
    }

    private static void bodies(Bounds b) {
        b.says(26, "BODIES: Gazer: 10 stops: x + k. 11 reads: stops(x) * 2. 12 asks: reads(x) - m.",
                voices(0, 9, 18, 13, 2));
        b.says(26, PARTS, "reader(9) voice(0, 3, 9) = 1 voice(0, 3, 8) = 0 voice(0, 3, -8) = 0 voice(0, 3, -9) = -1 "
                + "voice(0, 3, -17) = -1",
                "reader(0) reader(0) reader(0) voice(2, 3, 7) = -3 voice(2, 3, -7) = 3 become(2, 1) voice(2, 3, 7) = -7 "
                + "become(2, 2) voice(2, 3, 7) = PARTED become(2, 3) voice(2, 3, 7) = 7 become(2, 9) voice(2, 3, 7) = 1",
                // No part of a SCHOLAR's comes to it.
                "reader(0) reader(11) voice(1, 3, 7) = PARTED count(8) = 2 become(1, 12) voice(1, 3, 7) = 3",
                SIX + "become(5, 0) voice(5, 3, 9) = -1 become(5, 55) voice(5, 3, 9) = PARTED told(6) = 1");
        b.says(26, "Quotients are cut toward 0.", "reader(2) voice(0, 3, -3) = -1 voice(0, 3, 3) = 1 become(0, 30) "
                + "voice(0, 2, -3) = -2 voice(0, 2, 3) = 2 voice(0, 2, -1) = 0");
        b.says(26, "Scholar: 20 stops: super.stops(x) - 4. 21 parts: super.parts(x) + reads(1).", voices(1, 5, 10, 5, 0));
        b.says(26, "Deputy: 30 reads: 0 - super.reads(x).", voices(2, 9, -18, -23, 2));
        b.says(26, "Child: 40 asks: super.asks(x / 2).", voices(3, 9, 18, 5, 2), "reader(30) voice(0, 2, -7) = -6 "
                + "voice(0, 2, 1) = 0 voice(0, 2, -1) = 0 voice(0, 2, min) = min");
        b.says(26, "Enemy: 50 stops: super.stops(x) * 3. 51 asks: super.asks(x) ^ k.", voices(4, 15, 30, 27, -4),
                "reader(0) reader(45) voice(1, 2, 7) = 18 voice(1, 0, 7) = 12 become(0, 45) voice(0, 2, 7) = 13");
        b.says(26, "Clerk: 60 reads: super.reads(x + 1).", voices(5, 9, -20, -25, 2));
        b.says(26, "Tourist: 70 stops: 9. 71 reads: super.reads(x) + m.", voices(6, 9, 23, 18, 2), "reader(60) "
                + "voice(0, 0, min) = 9 voice(0, 0, max) = 9 voice(0, 1, 0) = 18");
        b.says(26, "stops(..) is the BODY of its KIND, or of the next KIND above that has one; super.stops(..) that from "
                + "the KIND above the BODY's on.", voices(1, 5, 10, 5, 0), voices(4, 15, 30, 27, -4),
                voices(5, 9, -20, -25, 2),
                // A BODY of a KIND above asks as the KIND does that was asked first.
                "reader(49) voice(0, 3, 9) = -17 voice(0, 1, 4) = 0");
    }

    /** THE TRACE of each VOICE of reader 1 with m 5, as one of a KIND. */
    private static void traces(Bounds b, int kind, int[]... all) {
        StringBuilder run = new StringBuilder("reader(0) reader(" + (10 * kind + 5) + ") body(0) = NONE ");
        for (int voice = 0; voice < 4; voice++) {
            run.append("voice(1, ").append(voice).append(", 7) count(8) = ").append(all[voice].length).append(' ');
            for (int i = 0; i < all[voice].length; i++) {
                run.append("body(").append(i).append(") = ").append(all[voice][i]).append(" still ");
            }
            run.append("body(").append(all[voice].length).append(") = NONE body(-1) = NONE ");
        }
        b.says(27, "THE TRACE's i-th.", run.toString());
    }

    private static int[] of(int... bodies) {
        return bodies;
    }

    private static void trace(Bounds b) {
        traces(b, 0, of(10), of(11, 10), of(12, 11, 10), of(13));
        traces(b, 1, of(20, 10), of(11, 20, 10), of(12, 11, 20, 10), of(21, 13, 11, 20, 10));
        traces(b, 2, of(10), of(30, 11, 10), of(12, 30, 11, 10), of(13));
        traces(b, 3, of(10), of(11, 10), of(40, 12, 11, 10), of(13));
        traces(b, 4, of(50, 20, 10), of(11, 50, 20, 10), of(51, 12, 11, 50, 20, 10), of(21, 13, 11, 50, 20, 10));
        traces(b, 5, of(10), of(60, 30, 11, 10), of(12, 60, 30, 11, 10), of(13));
        traces(b, 6, of(70), of(71, 11, 70), of(12, 71, 11, 70), of(13));
        b.says(27, "NONE: there is none such.", "body(0) = NONE body(-1) = NONE body(29) = NONE body(30) = NONE "
                + "body(min) = NONE body(max) = NONE",
                BASE + "count(8) = 5 body(3) = 20 still body(4) = 10 still body(5) = NONE",
                "reader(45) reader(45) voice(1, 2, 0) body(5) = 10 body(6) = NONE body(-1) = NONE body(29) = NONE "
                + "body(30) = NONE body(min) = NONE body(max) = NONE voice(0, 0, 0) body(2) = 10 body(3) = NONE "
                + "body(5) = NONE");
        // Six BODIES are the most that any VOICE begins: none comes near 30.
        b.says(27, "THE TRACE: the numbers of BODIES of the latest "
                + "voice(), as they began (what stands left is worked out first), the first 30.",
                "count(8) = 0 reader(45) voice(0, 2, 7) count(8) = 6 voice(0, 2, 7) count(8) = 6 voice(0, 0, 7) "
                + "count(8) = 3 body(0) = 50 body(2) = 10",
                "reader(15) voice(0, 3, 7) body(0) = 21 body(1) = 13 body(2) = 11 body(3) = 20 body(4) = 10 body(5) = NONE",
                // Also of one that parted; of one that isn't asked it is that of the latest that was.
                "reader(0) reader(11) voice(1, 2, 7) count(8) = 4 voice(1, 3, 7) = PARTED count(8) = 2 body(0) = 21 "
                + "body(1) = 13 body(2) = NONE voice(1, 4, 7) = BEYOND count(8) = 2 voice(0, 3, 7) = PARTED count(8) = 1 "
                + "body(0) = 13 body(1) = NONE voice(2, 0, 7) = BEYOND body(0) = 13");
    }

    private static void sheet(Bounds b) {
        b.says(28, "A SHEET has n numbers, all 0, of so many bits (8, 16, 32; 0: it is missing, n doesn't matter): 1.",
                "sheet(0, 8, 0) = 1 sheet(1, 16, 24) = 1 sheet(2, 32, 1) = 1 sheet(3, 8, 24) = 1 judge(0) = 0 "
                + "put(0, 0, 1) = BEYOND put(1, 23, 1) = 1 put(1, 24, 1) = BEYOND put(2, 0, 1) = 1 put(2, 1, 1) = BEYOND "
                + "put(3, 23, 1) = 1 put(3, 24, 1) = BEYOND",
                BASE + "sheet(0, 0, 0) = 1 judge(0) = NONE sheet(1, 0, -1) = 1 judge(1) = NONE sheet(2, 0, 25) = 1 "
                + "judge(2) = NONE sheet(3, 0, min) = 1 sheet(3, 0, max) = 1 judge(3) = NONE told(1) = 0 told(3) = 0",
                // What stood in it is gone.
                BASE + "sheet(0, 16, 3) = 1 markAll(0) = 3 count(5) = 0", BASE + "sheet(0, 32, 2) = 1 markAll(0) = 2 "
                + "count(5) = 44 move(0, 0, 2, 0, 0) = 0",
                "reader(0) reader(0) sheet(0, 8, 2) put(0, 1, 5) sheet(0, 8, 1) sheet(0, 8, 2) markAll(0) = 2 count(5) = 0");
        b.says(28, "BEYOND.", BASE + "sheet(-1, 8, 1) = BEYOND sheet(4, 8, 1) = BEYOND sheet(0, -1, 1) = BEYOND "
                + "sheet(0, 1, 1) = BEYOND sheet(0, 7, 1) = BEYOND sheet(0, 9, 1) = BEYOND sheet(0, 15, 1) = BEYOND "
                + "sheet(0, 17, 1) = BEYOND sheet(0, 24, 1) = BEYOND sheet(0, 31, 1) = BEYOND sheet(0, 33, 1) = BEYOND "
                + "sheet(0, 64, 1) = BEYOND sheet(0, -8, 1) = BEYOND sheet(0, min, 1) = BEYOND sheet(0, max, 1) = BEYOND",
                BASE + "sheet(min, 8, 1) = BEYOND sheet(max, 8, 1) = BEYOND sheet(4, 0, 0) = BEYOND "
                + "sheet(-1, 0, 0) = BEYOND sheet(0, 8, 25) = BEYOND sheet(1, 16, 25) = BEYOND sheet(3, 32, 25) = BEYOND "
                + "sheet(0, 8, max) = BEYOND judge(3) = NONE");
        b.says(28, "STATE: n is below 0 (ahead of BEYOND of n).", BASE + "sheet(0, 8, -1) = STATE sheet(1, 16, -1) = STATE "
                + "sheet(3, 32, -1) = STATE sheet(0, 8, min) = STATE sheet(0, 8, 0) = 1", "sheet(0, 8, -1) = STATE "
                + "judge(0) = NONE");
        b.says(28, "SHEETS 0 .. 3 are rows of 8, 16, 32 bits, at most 24 numbers, or missing (as at first).",
                "judge(0) = NONE judge(3) = NONE sheet(0, 8, 24) = 1 sheet(3, 32, 24) = 1 sheet(4, 8, 0) = BEYOND "
                + "sheet(-1, 8, 0) = BEYOND sheet(0, 16, 25) = BEYOND put(0, 23, 0) = 1",
                "sheet(0, 8, 0) sheet(1, 16, 0) sheet(2, 32, 0) move(0, 0, 1, 0, 0) = KIND move(1, 0, 2, 0, 0) = KIND "
                + "move(2, 0, 0, 0, 0) = KIND sheet(3, 16, 0) move(3, 0, 1, 0, 0) = 0 move(3, 0, 2, 0, 0) = KIND");
    }

    /** MARKS that v becomes in a SHEET of so many bits; -1 if it is none of 0 .. 9999 there. */
    private static String marked(int bits, String v, int marks) {
        return "sheet(0, " + bits + ", 1) put(0, 0, " + v + ") = 1 markAll(0) = " + (marks < 0 ? 0 : 1)
                + (marks < 0 ? " " : " readerIs(0, 2) = " + marks + " ");
    }

    private static void put(Bounds b) {
        b.says(29, "Number i of a SHEET becomes v (its lowest bits): 1.",
                "reader(0) " + marked(8, "0", 0) + marked(8, "127", 127) + marked(8, "256", 0) + marked(8, "383", 127)
                + marked(8, "-256", 0) + marked(8, "-255", 1) + marked(8, "max", -1) + marked(8, "min", 0)
                + marked(8, "65537", 1),
                "reader(0) " + marked(16, "0", 0) + marked(16, "9999", 9999) + marked(16, "10000", -1)
                + marked(16, "32767", -1) + marked(16, "65536", 0) + marked(16, "75535", 9999) + marked(16, "-65535", 1)
                + marked(16, "max", -1) + marked(16, "min", 0),
                "reader(0) " + marked(32, "0", 0) + marked(32, "9999", 9999) + marked(32, "10000", -1)
                + marked(32, "-1", -1) + marked(32, "65536", -1) + marked(32, "max", -1) + marked(32, "min", -1),
                // Java's byte and short: of 8 and 16 bits the highest is the sign.
                "reader(0) " + marked(8, "128", -1) + marked(8, "255", -1) + marked(8, "-1", -1) + marked(16, "32768", -1)
                + marked(16, "65535", -1) + marked(16, "-1", -1),
                SIX + "sheet(3, 8, 24) put(3, 0, 9) = 1 put(3, 5, 7) = 1 put(3, 23, 1) = 1 markAll(3) = 6 count(5) = 16 "
                + "readerIs(0, 2) = 9 readerIs(5, 2) = 7 move(3, 23, 3, 0, 1) markAll(3) readerIs(0, 2) = 1");
        b.says(29, "BEYOND: no such SHEET.", BASE + "put(-1, 0, 0) = BEYOND put(4, 0, 0) = BEYOND put(min, 0, 0) = BEYOND "
                + "put(max, 0, 0) = BEYOND");
        b.says(29, "NONE: it is missing.", "put(0, 0, 0) = NONE put(3, 0, 0) = NONE",
                BASE + "put(3, 0, 0) = NONE put(3, -1, 0) = NONE put(3, 24, 0) = NONE sheet(0, 0, 3) put(0, 0, 0) = NONE "
                + "put(1, 0, 0) = 1");
        b.says(29, "BEYOND: no such number.", BASE + "put(0, -1, 0) = BEYOND put(0, 3, 0) = BEYOND put(0, 24, 0) = BEYOND "
                + "put(0, min, 0) = BEYOND put(0, max, 0) = BEYOND put(2, 0, 0) = BEYOND put(1, 2, 0) = BEYOND "
                + "put(0, 2, 0) = 1 put(0, 0, 0) = 1",
                "sheet(0, 8, 24) put(0, 24, 1) = BEYOND put(0, 23, 1) = 1");
    }

    private static void move(Bounds b) {
        String row = "reader(0) reader(0) reader(0) reader(0) sheet(0, 16, 4) put(0, 0, 10) put(0, 1, 11) put(0, 2, 12) "
                + "put(0, 3, 13) ";
        String seen = " markAll(0) readerIs(0, 2) = %d readerIs(1, 2) = %d readerIs(2, 2) = %d readerIs(3, 2) = %d ";
        b.says(30, "n numbers of a SHEET, from number i on, come to another one (or the same), from its number j on, as "
                + "they all were: n.",
                row + "move(0, 0, 0, 1, 3) = 3" + String.format(seen, 10, 10, 11, 12), row + "move(0, 1, 0, 0, 3) = 3"
                + String.format(seen, 11, 12, 13, 13), row + "move(0, 0, 0, 0, 4) = 4 still"
                + String.format(seen, 10, 11, 12, 13),
                row + "move(0, 3, 0, 0, 1) = 1" + String.format(seen, 13, 11, 12, 13), row + "move(0, 0, 0, 3, 1) = 1"
                + String.format(seen, 10, 11, 12, 10), row + "move(0, 0, 0, 2, 2) = 2" + String.format(seen, 10, 11, 10, 11),
                row + "sheet(3, 16, 4) move(0, 1, 3, 2, 2) = 2 markAll(3) = 4 readerIs(1, 2) = 0 readerIs(2, 2) = 11 "
                + "readerIs(3, 2) = 12 " + String.format(seen, 10, 11, 12, 13),
                row + "move(0, 0, 0, 0, 0) = 0 still move(0, 4, 0, 4, 0) = 0 still move(0, 2, 0, 1, 0) = 0 still",
                "sheet(0, 32, 24) sheet(1, 32, 24) move(0, 0, 1, 0, 24) = 24 move(1, 23, 0, 0, 1) = 1 "
                + "move(1, 24, 0, 24, 0) = 0 sheet(2, 32, 0) move(2, 0, 2, 0, 0) = 0 move(0, 0, 2, 0, 0) = 0");
        b.says(30, "BEYOND: no such SHEET.", BASE + "move(-1, 0, 0, 0, 1) = BEYOND move(4, 0, 0, 0, 1) = BEYOND "
                + "move(0, 0, -1, 0, 1) = BEYOND move(0, 0, 4, 0, 1) = BEYOND move(min, 0, 0, 0, 1) = BEYOND "
                + "move(max, 0, 0, 0, 1) = BEYOND move(0, 0, min, 0, 1) = BEYOND move(0, 0, max, 0, 1) = BEYOND");
        b.says(30, "NONE: one is missing.", "move(0, 0, 0, 0, 0) = NONE move(0, 0, 3, 0, 0) = NONE",
                BASE + "move(3, 0, 0, 0, 1) = NONE move(0, 0, 3, 0, 1) = NONE move(3, 0, 3, 0, 0) = NONE "
                + "move(3, -1, 0, -1, -1) = NONE");
        b.says(30, "KIND: they are of unlike bits.", BASE + "move(0, 0, 1, 0, 1) = KIND move(1, 0, 0, 0, 1) = KIND "
                + "move(0, 0, 2, 0, 0) = KIND move(1, 0, 2, 0, 0) = KIND move(0, -1, 1, 9, 99) = KIND sheet(3, 16, 1) "
                + "move(0, 0, 3, 0, 1) = 1");
        b.says(30, "BEYOND: n, i, or j is below 0, or they don't stand there.",
                BASE + "sheet(3, 16, 2) move(0, -1, 3, 0, 1) = BEYOND move(0, 0, 3, -1, 1) = BEYOND "
                + "move(0, 0, 3, 0, -1) = BEYOND move(0, -1, 3, 0, 0) = BEYOND move(0, 0, 3, -1, 0) = BEYOND "
                + "move(0, 3, 3, 0, 1) = BEYOND move(0, 4, 3, 0, 0) = BEYOND move(0, 0, 3, 2, 1) = BEYOND "
                + "move(0, 0, 3, 3, 0) = BEYOND move(0, 0, 3, 0, 3) = BEYOND move(3, 0, 0, 0, 3) = BEYOND "
                + "move(0, 2, 3, 0, 2) = BEYOND move(0, 0, 3, 1, 2) = BEYOND",
                BASE + "move(0, 0, 0, 0, 4) = BEYOND move(0, max, 0, 0, 1) = BEYOND move(0, 0, 0, max, 1) = BEYOND "
                + "move(0, 0, 0, 0, max) = BEYOND move(0, max, 0, max, max) = BEYOND move(0, min, 0, 0, 1) = BEYOND "
                + "move(0, 0, 0, min, 1) = BEYOND move(0, 0, 0, 0, min) = BEYOND move(0, 1, 0, 0, max) = BEYOND "
                + "move(0, max, 0, 0, 0) = BEYOND move(0, 0, 0, 0, 3) = 3",
                BASE + "move(2, 0, 2, 0, 1) = BEYOND move(2, 1, 2, 0, 0) = BEYOND move(2, 0, 2, 0, 0) = 0");
    }

    private static void markAll(Bounds b) {
        b.says(31, "Numbers of a SHEET become MARKS of READERS 0, 1, ..: how many, up to the first that is not 0 to 9999 "
                + "(no ERROR then), or for which there is no reader.",
                "sheet(0, 32, 0) markAll(0) = 0 still sheet(1, 16, 24) markAll(1) = 0 still",
                "reader(0) reader(0) reader(0) marked(2, 5) sheet(0, 32, 2) put(0, 0, 9999) markAll(0) = 2 count(5) = 10004 "
                + "readerIs(0, 2) = 9999 readerIs(1, 2) = 0 readerIs(2, 2) = 5 told(1) = 0",
                BASE + "put(0, 1, 10000) markAll(0) = 1 readerIs(0, 2) = 5 readerIs(1, 2) = 9999 readerIs(2, 2) = 44 "
                + "put(0, 1, -1) markAll(0) = 1 put(0, 1, 9999) markAll(0) = 3 readerIs(2, 2) = 7 put(0, 0, 10000) "
                + "markAll(0) = 0 put(0, 2, 10000) put(0, 0, 0) markAll(0) = 2 readerIs(0, 2) = 0 readerIs(2, 2) = 7 "
                + "told(1) = 0 told(5) = 0",
                SIX + "sheet(0, 8, 24) put(0, 5, 9) put(0, 6, -1) markAll(0) = 6 count(5) = 9 told(1) = 0",
                BASE + "markAll(1) = 1 readerIs(0, 2) = 8 readerIs(1, 2) = 9999 markAll(2) = 0");
        b.says(31, "BEYOND: no such SHEET.", BASE + "markAll(-1) = BEYOND markAll(4) = BEYOND markAll(min) = BEYOND "
                + "markAll(max) = BEYOND");
        b.says(31, "NONE: it is missing.", "markAll(0) = NONE markAll(3) = NONE", BASE + "markAll(3) = NONE sheet(0, 0, 0) "
                + "markAll(0) = NONE");
    }

    private static void judge(Bounds b) {
        b.says(32, "Numbers of a SHEET are MARKS of READERS 0, 1, ..: how many are right, from the first on.",
                "sheet(0, 32, 0) judge(0) = 0 still sheet(1, 16, 24) judge(1) = 0 still", SIX + "sheet(0, 8, 24) "
                + "judge(0) = 6 still marked(5, 1) judge(0) = 5 still marked(0, 1) judge(0) = 0 still put(0, 0, 1) "
                + "judge(0) = 5 put(0, 5, 1) judge(0) = 6",
                BASE + "judge(0) = 0 still marked(0, 5) judge(0) = 1 still marked(1, 600) marked(2, 7) judge(0) = 3 still "
                + "marked(1, 601) judge(0) = 1 still",
                "reader(0) reader(0) sheet(0, 32, 1) judge(0) = 1 marked(0, 9999) judge(0) = 0 put(0, 0, 9999) judge(0) = 1 "
                + "put(0, 0, 75535) judge(0) = 0");
        b.says(32, "BEYOND: no such SHEET.", BASE + "judge(-1) = BEYOND judge(4) = BEYOND judge(min) = BEYOND "
                + "judge(max) = BEYOND");
        b.says(32, "NONE: it is missing.", "judge(0) = NONE judge(3) = NONE", BASE + "judge(3) = NONE sheet(0, 0, 0) "
                + "judge(0) = NONE");
    }

    private static void image(Bounds b) {
        b.says(33, "All (but SHEETS, THE TRACE, what "
                + "told() tells, and how often this was done) is kept as an IMAGE, in place of one ahead: how often that "
                + "was done.",
                "image() = 1 image() = 2 restore() = 0 image() = 3 " + "image() ".repeat(50) + "image() = 54",
                "year(1) image() = 1 year(2) image() = 2 year(3) restore() = 2 restore() = 2 image() = 3",
                BASE + "image() = 2 restore() = 1234 still image() = 3",
                // What isn't kept stays as it is now, both ahead and behind.
                BASE + "reader(99) = BEYOND sheet(0, 8, 1) sheet(3, 32, 2) put(3, 1, 9) voice(0, 0, 1) restore() = 4321 "
                + "told(1) = 1 count(8) = 1 body(0) = 10 move(0, 0, 0, 0, 1) = 1 move(0, 1, 0, 0, 1) = BEYOND "
                + "markAll(3) = 2 readerIs(1, 2) = 9 told(1) = 2 image() = 2");
    }

    private static void restore(Bounds b) {
        b.says(34, "All is as the IMAGE has it, which stays: YEAR.",
                BASE + "restore() = 4321 restore() = 4321 still count(0) = 3 count(1) = 4321 count(2) = 165 count(3) = 300 "
                + "count(4) = 17 count(5) = 10069 count(6) = 1 count(7) = 1 count(9) = 77 readerIs(0, 0) = 0 "
                + "readerIs(0, 1) = 3 readerIs(2, 2) = 0 law(0, 5, 4, 2) = 8 law(1, 5, 4, 2) = 9 sign(0, 255) = 5 "
                + "check() = 0 happens(2, 0) = 4 text(0) = 1 law(0, 5, 4, 2) = 5 restore() = 4321 law(0, 5, 4, 2) = 8 "
                + "count(7) = 1 happens(2, 0) = 4",
                "tell(0) tell(1) image() check() = 2 tell(1) tell(0) tell(0) restore() = 0 count(7) = 2 check() = 2 "
                + "restore() = 0 knows(2) check() = 0",
                "image() reader(5) year(9999) knows(255) restore() = 0 count(0) = 0 count(2) = 0 readerIs(0, 0) = BEYOND "
                + "restore() = 0",
                "year(9999) image() year(0) restore() = 9999 years(1) = STATE",
                SIX + "marked(5, 9999) image() become(5, 0) marked(5, 0) restore() = 0 readerIs(5, 0) = 5 "
                + "readerIs(5, 1) = 5 readerIs(5, 2) = 9999 reader(0) = FULL",
                "tell(0) ".repeat(24) + "feed(0, 8) ".repeat(7) + "feed(0, 4) = 60 image() check() = 7 text(0) = -10 "
                + "restore() = 0 count(7) = 24 count(6) = 60 tell(0) = FULL feed(0, 1) = FULL check() = 7",
                // A TEXT that the IMAGE hasn't is gone; one that it has is there again.
                "image() write('9') text(0) write('8') text(1) restore() = 0 untell(0) = 0 untell(1) = 0 "
                + "law(0, 5, 1, 1) = 5 sign(1, 255) = 8",
                "write('9') text(0) write('8') text(1) image() untell(0) untell(1) sign(0, 0) = 0 restore() = 0 "
                + "sign(0, 0) = 9 law(1, 5, 1, 1) = 8 untell(0) = 1 untell(1) = 1");
        b.says(34, "NONE: there is none.", "restore() = NONE restore() = NONE image() = 1 restore() = 0",
                SIX + "knows(9) year(7) tell(0) feed(98, 1) sheet(0, 8, 1) voice(0, 0, 0) restore() = NONE");
    }

    private static void tell(Bounds b) {
        b.says(35, "One more number waits: how many.", "tell(0) = 1 tell(min) = 2 tell(max) = 3 tell(-1000000001) = 4 "
                + "count(7) = 4 told(1) = 0",
                "tell(0) ".repeat(23) + "tell(0) = 24 count(7) = 24", "tell(0) = 1 tell(0) = 2 check() = 0 tell(0) = 1");
        b.says(35, "FULL: 24 wait.", "tell(0) ".repeat(23) + "tell(0) = 24 tell(0) = FULL tell(min) = FULL tell(max) = FULL "
                + "count(7) = 24 check() = 7 tell(0) = 1", BASE + "tell(0) ".repeat(22) + "count(7) = 24 tell(0) = FULL");
    }

    private static void check(Bounds b) {
        b.says(36, "The numbers that wait (none do then) are TURNS of LION 0 for the EVENTS in places 0, 1, .. in this "
                + "YEAR: 0; else 1 and the place (from 0) of the first that isn't so (or beyond place 5).",
                "check() = 0 still tell(0) check() = 0 count(7) = 0 check() = 0",
                "knows(63) tell(1) tell(1) tell(1) tell(1) tell(1) tell(1) check() = 0 count(7) = 0",
                "knows(63) tell(1) tell(1) tell(1) tell(1) tell(1) tell(0) check() = 6 count(7) = 0 check() = 0",
                "knows(63) tell(1) tell(1) tell(1) tell(1) tell(1) tell(1) tell(1) check() = 7 count(7) = 0",
                "knows(63) tell(1) tell(1) tell(1) tell(1) tell(1) tell(1) " + "tell(1) ".repeat(18) + "check() = 7 "
                + "check() = 0",
                "knows(63) tell(0) tell(1) check() = 1 tell(1) tell(2) tell(0) check() = 2 tell(-1) check() = 1 tell(min) "
                + "check() = 1 tell(max) check() = 1", "tell(1) check() = 1 happens(0, 255) knows(255) tell(8) tell(1) "
                + "check() = 0 tell(8) tell(8) check() = 2 write('y*10') text(0) year(2) tell(20) tell(20) check() = 0 "
                + "year(3) tell(30) check() = 0 year(4) tell(40) check() = 1 tell(30) check() = 0", BASE + "check() = 0 "
                + "count(7) = 0 told(1) = 0");
    }

    private static void count(Bounds b) {
        b.says(37, "0 READERS, 1 YEAR, 2 SECRET, 3 JAW of LION 0, 4 that of LION 1, 5 MARKS of all together, 6 bytes of THE "
                + "TAPE, 7 numbers that wait, 8 BODIES in THE TRACE, 9 z (any number).",
                BASE + "count(0) = 3 still count(1) = 1234 still count(2) = 21 still count(3) = 11 still "
                + "count(4) = 12 still count(5) = 10113 still count(6) = 3 still count(7) = 2 still count(8) = 5 still "
                + "count(9) = -9 still",
                SIX + "year(9999) knows(255) jawed(0, 359) jawed(1, 358) marked(0, 9999) marked(1, 9999) marked(2, 9999) "
                + "marked(3, 9999) marked(4, 9999) marked(5, 9999) " + "feed(0, 8) ".repeat(7) + "feed(0, 4) "
                + "tell(0) ".repeat(24) + "become(0, 40) voice(0, 2, 0) seed(-1000000001) count(0) = 6 count(1) = 9999 "
                + "count(2) = 255 count(3) = 359 count(4) = 358 count(5) = 59994 count(6) = 60 count(7) = 24 count(8) = 6 "
                + "count(9) = -1000000001 told(1) = 0",
                "seed(min) count(9) = min seed(max) count(9) = max", "count(0) = 0 count(5) = 0 count(6) = 0 count(7) = 0 "
                + "count(8) = 0 count(9) = 1");
        b.says(37, "BEYOND.", BASE + "count(-1) = BEYOND count(10) = BEYOND count(min) = BEYOND count(max) = BEYOND",
                "count(10) = BEYOND");
    }

    private static void told(Bounds b) {
        b.says(38, "How many acts have answered an ERROR LOW - k (k 1 .. 6);",
                "told(1) = 0 still told(2) = 0 still told(3) = 0 still told(4) = 0 still told(5) = 0 still "
                + "told(6) = 0 still",
                "reader(0) reader(-1) = BEYOND knows(256) = BEYOND body(0) = NONE sheet(0, 8, -1) = STATE as(0, 1) = KIND "
                + "voice(0, 3, 1) = PARTED " + "feed(0, 8) ".repeat(7) + "feed(0, 8) = FULL feed(0, 8) = FULL "
                + "feed(0, 8) = FULL told(1) = 2 told(2) = 1 told(3) = 1 told(4) = 3 told(5) = 1 told(6) = 1",
                "knows(-1) ".repeat(500) + "told(1) = 500", "seed(-1000000001) seed(0) = -1000000001 text(0) = -10 "
                + "told(1) = 0",
                "knows(-1) image() knows(-1) restore() told(1) = 2");
        b.says(38, "BEYOND: another k (counted, too).", "told(0) = BEYOND told(1) = 1 told(7) = BEYOND told(1) = 2 "
                + "told(-1) = BEYOND told(min) = BEYOND told(max) = BEYOND told(1) = 5", BASE + "told(0) = BEYOND "
                + "told(7) = BEYOND told(6) = 0 told(1) = 2");
    }
}
