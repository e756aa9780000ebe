import java.io.IOException;
import java.lang.reflect.InvocationTargetException;
import java.lang.reflect.Method;
import java.nio.file.Files;
import java.nio.file.Path;
import java.util.ArrayList;
import java.util.Arrays;
import java.util.HashMap;
import java.util.List;
import java.util.Map;
import java.util.regex.Matcher;
import java.util.regex.Pattern;

/**
 * Sentences of the document, each with runs of calls that would go otherwise if it were broken.
 *
 * A run is told as text, on a new object: "knows(255) = 0 knows(256) = BEYOND sign(0, 255) = 8 still". A call without
 * "=" may answer any number. Behind one whose due is an ERROR by its name, all must be as ahead of it, but for what
 * told() tells (and THE TRACE, if it is PARTED); behind one with "still", told() too. write('b+e') feeds a text.
 */
final class Bounds {
    private static final int LOW = -1000000000;
    private static final int MOST_CALLS = 512;
    private static final List<String> ERRORS =
            List.of("", "BEYOND", "NONE", "STATE", "FULL", "KIND", "PARTED");
    private static final int PARTED = 6;
    private static final Pattern CALL =
            Pattern.compile("\\s*(\\w+)\\(('[^']*'|[^()']*)\\)(?:\\s*=\\s*(-?\\w+))?(\\s+still\\b)?\\s*");
    private static final Map<String, Method> FACE = new HashMap<>();

    /** All kinds of things stand in it, and the IMAGE has others: so that what changes can be seen. */
    static final String BASE = """
            reader(3) reader(15) reader(26) marked(0, 70) marked(1, 9999) knows(165) jawed(0, 300) jawed(1, 17)
            happens(1, 255) happens(4, 0) write('b+e%3+y') text(0) write('r+j') text(1) seed(77) year(4321)
            tell(3) write('b') image()
            knows(21) jawed(0, 11) jawed(1, 12) happens(2, 77) year(1234) marked(2, 44) seed(-9) become(0, 34)
            write('*2+e%2') text(0) write('9-j') text(1) write('7+b') check() tell(3) tell(7)
            sheet(0, 16, 3) put(0, 0, 5) put(0, 1, 600) put(0, 2, 7) sheet(1, 8, 2) put(1, 0, 8) put(1, 1, -1)
            sheet(2, 32, 0) voice(1, 3, 9)
            """;

    private static final class Row {
        String call;
        String name;
        long[] all;
        String text;
        Integer want;
        int error;
        boolean still;
    }

    /** An object, and how many calls it has had. */
    private static final class Played {
        final LionSigns x = new LionSigns();
        int calls;

        int ask(String name, long... all) {
            calls++;
            if (calls > MOST_CALLS) {
                throw new IllegalStateException("a run of more than 512 calls");
            }
            Method method = FACE.get(name);
            Class<?>[] types = method.getParameterTypes();
            Object[] values = new Object[all.length];
            for (int i = 0; i < all.length; i++) {
                if (types[i] == int.class && (int) all[i] != all[i]) {
                    throw new IllegalStateException("no int: " + all[i]);
                }
                values[i] = types[i] == int.class ? (Object) (int) all[i] : (Object) all[i];
            }
            try {
                return (int) method.invoke(x, values);
            } catch (InvocationTargetException thrown) {
                throw new IllegalStateException(name + Arrays.toString(all) + " has thrown", thrown.getCause());
            } catch (IllegalAccessException closed) {
                throw new IllegalStateException(closed);
            }
        }

        int play(Row row) {
            if (row.text == null) {
                return ask(row.name, row.all);
            }
            int there = 0;
            for (int i = 0; i < row.text.length(); i += 8) {
                int n = Math.min(8, row.text.length() - i);
                long word = 0;
                for (int j = 0; j < n; j++) {
                    word |= (long) row.text.charAt(i + j) << 8 * j;
                }
                there = ask("feed", word, n);
            }
            return there;
        }
    }

    private final Map<Integer, List<String>> quotes = new HashMap<>();
    private int sentences;
    private int runs;
    private int wrong;

    Bounds() {
        for (Method method : LionSigns.class.getMethods()) {
            if (method.getDeclaringClass() == LionSigns.class) {
                FACE.put(method.getName(), method);
            }
        }
    }

    /** A sentence (or what matters of it) that a promise rests on, and runs on new objects that show it. */
    void says(int promise, String quote, String... all) {
        quotes.computeIfAbsent(promise, key -> new ArrayList<>()).add(plain(quote));
        sentences++;
        for (String run : all) {
            runs++;
            try {
                play(promise, quote, rowsOf(run));
            } catch (IllegalStateException fault) {
                wrong++;
                System.out.println("promise " + promise + ": \"" + quote + "\": " + fault + " in " + run);
                fault.printStackTrace(System.out);
            }
        }
    }

    private static List<Row> rowsOf(String run) {
        List<Row> rows = new ArrayList<>();
        Matcher matcher = CALL.matcher(run);
        int at = 0;
        while (at < run.length()) {
            if (!matcher.find(at) || matcher.start() != at) {
                throw new IllegalStateException("no call at " + run.substring(at));
            }
            at = matcher.end();
            rows.add(rowOf(matcher));
        }
        return rows;
    }

    private static Row rowOf(Matcher matcher) {
        Row row = new Row();
        row.call = matcher.group().trim();
        row.name = matcher.group(1);
        String inside = matcher.group(2).trim();
        if (row.name.equals("write")) {
            row.text = inside.substring(1, inside.length() - 1);
        } else if (!FACE.containsKey(row.name)) {
            throw new IllegalStateException("no such call: " + row.call);
        }
        row.all = row.text != null || inside.isEmpty() ? new long[0]
                : Arrays.stream(inside.split(",")).mapToLong(one -> number(one.trim())).toArray();
        String want = matcher.group(3);
        row.error = Math.max(0, ERRORS.indexOf(want == null ? "" : want));
        row.want = want == null ? null : row.error > 0 ? LOW - row.error : (Integer) (int) number(want);
        row.still = matcher.group(4) != null;
        return row;
    }

    private static long number(String text) {
        return text.equals("min") ? Integer.MIN_VALUE : text.equals("max") ? Integer.MAX_VALUE : Long.decode(text);
    }

    private void play(int promise, String quote, List<Row> rows) {
        Played played = new Played();
        for (int i = 0; i < rows.size(); i++) {
            Row row = rows.get(i);
            int got = played.play(row);
            String fault = row.want != null && got != row.want ? "answered " + got
                    : row.error > 0 || row.still ? changed(rows, i) : "";
            if (!fault.isEmpty()) {
                wrong++;
                StringBuilder ahead = new StringBuilder();
                rows.subList(0, i).forEach(one -> ahead.append(one.call).append(' '));
                System.out.println("promise " + promise + ": \"" + quote + "\": " + row.call + ": " + fault
                        + ", behind " + ahead);
                return;
            }
        }
    }

    /** What the i-th of these rows has changed that it must not; "" if nothing. */
    private static String changed(List<Row> rows, int i) {
        Row row = rows.get(i);
        List<String> before = new ArrayList<>();
        List<String> after = new ArrayList<>();
        look(rows.subList(0, i), row.error, row.error == PARTED, before);
        look(rows.subList(0, i + 1), 0, row.error == PARTED, after);
        for (int j = 0; j < Math.max(before.size(), after.size()); j++) {
            String was = j < before.size() ? before.get(j) : "nothing";
            String is = j < after.size() ? after.get(j) : "nothing";
            if (!was.equals(is)) {
                return "behind it is " + is + ", due is " + was;
            }
        }
        return "";
    }

    /** All that can be seen behind these rows; told() of an ERROR that is to come is one more. */
    private static void look(List<Row> rows, int errorToCome, boolean traceIsFree, List<String> seen) {
        Played played = after(rows);
        for (int k = 1; k <= 6; k++) {
            seen.add("told(" + k + ") = " + (played.ask("told", k) + (k == errorToCome ? 1 : 0)));
        }
        for (int i = 0; !traceIsFree && i <= played.ask("count", 8); i++) {
            see(played, seen, "body", i);
        }
        lookAtWorld(played, seen);
        see(played, seen, "restore");
        lookAtWorld(played, seen);
        see(played, seen, "image");
        lookAtSheets(after(rows), seen);
    }

    private static Played after(List<Row> rows) {
        Played played = new Played();
        rows.forEach(played::play);
        return played;
    }

    private static void see(Played played, List<String> seen, String name, long... all) {
        seen.add(name + Arrays.toString(all) + " = " + played.ask(name, all));
    }

    private static void lookAtWorld(Played played, List<String> seen) {
        for (int what = 0; what < 10; what++) {
            if (what != 8) {
                see(played, seen, "count", what);
            }
        }
        int readers = played.ask("count", 0);
        for (int i = 0; i < readers; i++) {
            for (int what = 0; what < 4; what++) {
                see(played, seen, "readerIs", i, what);
            }
        }
        lookAtLaws(played, seen);
        see(played, seen, "check");
        see(played, seen, "text", 0);
        lookAtLaws(played, seen);
        for (int place = 0; place < 6; place++) {
            see(played, seen, "happens", place, 0);
        }
    }

    private static void lookAtLaws(Played played, List<String> seen) {
        see(played, seen, "sign", 0, 255);
        see(played, seen, "sign", 1, 77);
        for (int use = 0; use < 2; use++) {
            see(played, seen, "law", use, 5, 3, 2);
            see(played, seen, "law", use, 11, 1, 0);
        }
    }

    private static void lookAtSheets(Played played, List<String> seen) {
        if (played.ask("count", 0) == 0) {
            played.ask("reader", 0);
        }
        for (int sheet = 0; sheet < 4; sheet++) {
            for (int other = 0; other < sheet; other++) {
                see(played, seen, "move", sheet, 0, other, 0, 0);
            }
        }
        for (int sheet = 0; sheet < 4; sheet++) {
            int n = 0;
            while (n < 25 && played.ask("move", sheet, n, sheet, 0, 1) == 1) {
                int marks = played.ask("markAll", sheet) == 0 ? -1 : played.ask("readerIs", 0, 2);
                seen.add("SHEET " + sheet + ", number " + n + " = " + marks);
                n++;
            }
            seen.add("SHEET " + sheet + " has " + n);
        }
        for (int bits = 8; bits <= 32; bits *= 2) {
            played.ask("sheet", 3, bits, 0);
            for (int sheet = 0; sheet < 3; sheet++) {
                see(played, seen, "move", sheet, 0, 3, 0, 0);
            }
        }
    }

    private static String plain(String text) {
        return text.replaceAll("```(text)?", " ").replaceAll("\\s+", " ").trim();
    }

    /** That each sentence of the Terms and of the promises is quoted, by a promise that it belongs to. */
    void covers(Path document) throws IOException {
        String[] parts = Files.readString(document).split("(?m)^## ");
        StringBuilder known = new StringBuilder();
        List<String> everywhere = new ArrayList<>();
        quotes.values().forEach(everywhere::addAll);
        for (String part : parts) {
            Matcher promise = Pattern.compile("(?s)Promise (\\d+): [^\n]*\\s+`[^`]*`: (.*)").matcher(part);
            if (promise.matches()) {
                int number = Integer.parseInt(promise.group(1));
                leaves("promise " + number, promise.group(2), quotes.getOrDefault(number, List.of()));
                known.append(' ').append(plain(promise.group(2))).append(" /");
            } else if (part.startsWith("Terms")) {
                String terms = part.substring("Terms".length()).split("Ahead of the calls")[0];
                leaves("Terms", terms.replaceAll("(?m)^\\d\\. ", ""), everywhere);
                known.append(' ').append(plain(terms)).append(" /");
            } else {
                known.append(' ').append(plain(part)).append(" /");
            }
        }
        for (String quote : everywhere) {
            if (known.indexOf(quote) < 0) {
                wrong++;
                System.out.println("the document doesn't say: " + quote);
            }
        }
    }

    /** Tells what of a text no quote has. */
    private void leaves(String where, String text, List<String> all) {
        StringBuilder left = new StringBuilder(plain(text));
        String whole = left.toString();
        for (String quote : all) {
            for (int at = whole.indexOf(quote); at >= 0; at = whole.indexOf(quote, at + 1)) {
                for (int i = 0; i < quote.length(); i++) {
                    left.setCharAt(at + i, ' ');
                }
            }
        }
        if (Pattern.compile("\\w").matcher(left).find()) {
            wrong++;
            System.out.println("no run shows, of " + where + ": " + plain(left.toString()));
        }
    }

    /** The exit code. */
    int ends() {
        for (int promise = 1; promise <= 38; promise++) {
            if (!quotes.containsKey(promise)) {
                wrong++;
                System.out.println("no run for promise " + promise);
            }
        }
        System.out.println(wrong == 0 ? sentences + " sentences hold in " + runs + " runs"
                : wrong + " are not as due");
        return wrong == 0 ? 0 : 1;
    }
}
