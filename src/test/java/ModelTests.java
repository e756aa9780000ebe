import java.util.ArrayList;
import java.util.Arrays;
import java.util.HashSet;
import java.util.List;
import java.util.Random;
import java.util.Set;

/**
 * Random runs of calls on LionSigns and on a slow model of the document, written in another way: texts are split
 * and worked out as strings, KINDS are real classes with super calls, ERRORS are thrown. The seed is fixed.
 */
public final class ModelTests {
    private static final int RUNS = 150;
    /** So few that the last step of a run and what is asked at its end stay within 512 calls. */
    private static final int CALLS = 445;
    private static final int LOW = -1000000000;
    /** Each call with each ERROR that it has. */
    private static final String REFUSALS =
            "reader1 reader4 readerIs1 become1 as1 as5 marked1 knows1 jawed1 happens1 sign1 feed1 feed4 text1 untell1 "
            + "law1 years1 years3 loose1 loose3 year1 then1 marksThen1 laughs1 laughs2 alike2 fits1 fits2 question1 "
            + "question2 question3 odds1 voice1 voice6 body2 sheet1 sheet3 put1 put2 move1 move2 move5 markAll1 markAll2 "
            + "judge1 judge2 restore2 tell4 count1 told1";
    private static final Set<String> reached = new HashSet<>();
    private static int wrong = 0;

    /** An ERROR LOW - k. */
    private static final class Refusal extends RuntimeException {
        private static final long serialVersionUID = 1L;
        final int k;

        Refusal(int k) {
            super("LOW - " + k, null, false, false);
            this.k = k;
        }
    }

    private static class Gazer {
        int m;
        int marks;
        int number;
        Model model;

        int lookedAt(Model.Year year) {
            return m % 2;
        }

        int readBy(Model.Year year, int turn, int jaw) {
            return turn;
        }

        final int looks(Model.Year year) {
            return lookedAt(year);
        }

        void begins(int body) {
            model.trace.add(body);
        }

        int stops(int x) {
            begins(10);
            return x + number;
        }

        int reads(int x) {
            begins(11);
            return stops(x) * 2;
        }

        int asks(int x) {
            begins(12);
            return reads(x) - m;
        }

        int parts(int x) {
            begins(13);
            if (m == number) {
                throw new Refusal(6);
            }
            return (int) ((long) x / (m - number));
        }

        int kind() {
            return 0;
        }
    }

    private static class Scholar extends Gazer {
        @Override int kind() {
            return 1;
        }

        @Override int lookedAt(Model.Year year) {
            return year.year % 2;
        }

        @Override int readBy(Model.Year year, int turn, int jaw) {
            return 2 * super.readBy(year, turn, jaw) + jaw % 3;
        }

        @Override int stops(int x) {
            begins(20);
            return super.stops(x) - 4;
        }

        @Override int parts(int x) {
            begins(21);
            int parts = super.parts(x);
            return parts + reads(1);
        }
    }

    private static class Deputy extends Gazer {
        @Override int kind() {
            return 2;
        }

        @Override int lookedAt(Model.Year year) {
            int lion = super.lookedAt(year);
            return m > 4 ? 1 - lion : lion;
        }

        @Override int readBy(Model.Year year, int turn, int jaw) {
            return super.readBy(year, turn, jaw) + m;
        }

        @Override int reads(int x) {
            begins(30);
            return 0 - super.reads(x);
        }
    }

    private static final class Child extends Gazer {
        @Override int kind() {
            return 3;
        }

        @Override int lookedAt(Model.Year year) {
            return year.jaws[0] > year.jaws[1] ? 1 : 0;
        }

        @Override int readBy(Model.Year year, int turn, int jaw) {
            return super.readBy(year, turn, jaw) % 2;
        }

        @Override int asks(int x) {
            begins(40);
            return super.asks(x / 2);
        }
    }

    private static final class Enemy extends Scholar {
        @Override int kind() {
            return 4;
        }

        @Override int lookedAt(Model.Year year) {
            return 1 - super.lookedAt(year);
        }

        @Override int readBy(Model.Year year, int turn, int jaw) {
            return super.readBy(year, turn, jaw) + 3;
        }

        @Override int stops(int x) {
            begins(50);
            return super.stops(x) * 3;
        }

        @Override int asks(int x) {
            begins(51);
            return super.asks(x) ^ number;
        }
    }

    private static final class Clerk extends Deputy {
        @Override int kind() {
            return 5;
        }

        @Override int readBy(Model.Year year, int turn, int jaw) {
            return super.readBy(year, turn, jaw) / 2 + model.readers.size();
        }

        @Override int reads(int x) {
            begins(60);
            return super.reads(x + 1);
        }
    }

    private static final class Tourist extends Gazer {
        @Override int kind() {
            return 6;
        }

        @Override int lookedAt(Model.Year year) {
            return 0;
        }

        @Override int readBy(Model.Year year, int turn, int jaw) {
            return m == 9 ? super.readBy(year, turn, jaw) : 0;
        }

        @Override int stops(int x) {
            begins(70);
            return 9;
        }

        @Override int reads(int x) {
            begins(71);
            return super.reads(x) + m;
        }
    }

    /** TEXTS as strings. */
    private static final class Texts {
        static final String[] LEVELS = {"|", "&", "<=>", "+-", "*/%"};

        /** The FAULT of a text, -1 if there is none: a walk over the signs with a pile of what is open. */
        static int faultOf(String text, String names) {
            StringBuilder open = new StringBuilder();
            boolean wanted = true;
            boolean compared = false;
            int digits = 0;
            for (int i = 0; i < text.length(); i++) {
                char c = text.charAt(i);
                boolean digit = "0123456789".indexOf(c) >= 0;
                if (wanted && digit || !wanted && digit && digits > 0 && digits < 4) {
                    digits++;
                    wanted = false;
                    continue;
                }
                if (!wanted && digits > 0) {
                    closeDenials(open);
                }
                digits = 0;
                if (wanted && names.indexOf(c) >= 0) {
                    wanted = false;
                    closeDenials(open);
                } else if (wanted && (c == '!' || c == '(') && signs(open) < 5) {
                    open.append(c == '!' ? "!" : compared ? "C(" : "N(");
                    compared = c == '(' ? false : compared;
                } else if (!wanted && c == ')' && signs(open) > 0 && open.charAt(open.length() - 1) == '(') {
                    compared = open.charAt(open.length() - 2) == 'C';
                    open.setLength(open.length() - 2);
                    closeDenials(open);
                } else if (!wanted && "<=>".indexOf(c) >= 0 && !compared) {
                    compared = true;
                    wanted = true;
                } else if (!wanted && "|&+-*/%".indexOf(c) >= 0) {
                    compared = "|&".indexOf(c) < 0 && compared;
                    wanted = true;
                } else {
                    return i;
                }
            }
            return wanted || open.indexOf("(") >= 0 ? text.length() : -1;
        }

        static int signs(StringBuilder open) {
            return open.toString().replaceAll("[CN]", "").length();
        }

        static void closeDenials(StringBuilder open) {
            while (open.length() > 0 && open.charAt(open.length() - 1) == '!') {
                open.setLength(open.length() - 1);
            }
        }

        /** What a text without FAULT gives: it is parted at the last sign that binds least. */
        static int valueOf(String text, String names, int[] values) {
            for (String level : LEVELS) {
                int depth = 0;
                for (int i = text.length() - 1; i >= 0; i--) {
                    char c = text.charAt(i);
                    depth += c == ')' ? 1 : c == '(' ? -1 : 0;
                    if (depth == 0 && level.indexOf(c) >= 0) {
                        return joined(c, valueOf(text.substring(0, i), names, values),
                                valueOf(text.substring(i + 1), names, values));
                    }
                }
            }
            if (text.charAt(0) == '!') {
                return valueOf(text.substring(1), names, values) == 0 ? 1 : 0;
            }
            if (text.charAt(0) == '(') {
                return valueOf(text.substring(1, text.length() - 1), names, values);
            }
            int name = names.indexOf(text.charAt(0));
            return name >= 0 ? values[name] : Integer.parseInt(text);
        }

        static int joined(char c, int p, int q) {
            boolean is = c == '|' ? p != 0 | q != 0 : c == '&' ? p != 0 & q != 0
                    : c == '<' ? p < q : c == '=' ? p == q : c == '>' && p > q;
            if ("|&<=>".indexOf(c) >= 0) {
                return is ? 1 : 0;
            }
            long a = p;
            long b = q;
            return (int) (c == '+' ? a + b : c == '-' ? a - b : c == '*' ? a * b
                    : b == 0 ? 0 : c == '/' ? a / b : a % b);
        }
    }

    /** The document, told slowly. */
    private static final class Model implements Cloneable {
        static final class Year {
            int year;
            int secret;
            int[] jaws = {0, 0};
            int[] turns = {0, 0};
        }

        static final String[] NAMES = {"bey", "rjy"};

        Year year = new Year();
        int[] events = {1, 2, 4, 8, 16, 32};
        List<Gazer> readers = new ArrayList<>();
        String[] texts = {null, null};
        String tape = "";
        List<Integer> waiting = new ArrayList<>();
        int z = 1;

        Model image;
        int images;
        List<Integer> trace = new ArrayList<>();
        int[][] sheets = new int[4][];
        int[] bits = new int[4];
        int[] told = new int[7];

        void need(boolean so, int k) {
            if (!so) {
                throw new Refusal(k);
            }
        }

        boolean in(int v, int low, int high) {
            return low <= v && v <= high;
        }

        Gazer reader(int i) {
            need(in(i, 0, readers.size() - 1), 1);
            return readers.get(i);
        }

        Gazer made(int km) {
            Gazer[] all = {new Gazer(), new Scholar(), new Deputy(), new Child(), new Enemy(), new Clerk(),
                new Tourist()};
            Gazer one = all[km / 10];
            one.m = km % 10;
            one.model = this;
            return one;
        }

        boolean isOf(Gazer one, int kind) {
            Class<?>[] all = {Gazer.class, Scholar.class, Deputy.class, Child.class, Enemy.class, Clerk.class,
                Tourist.class};
            return all[kind].isInstance(one);
        }

        int gives(int use, int... values) {
            int value = texts[use] == null ? values[0] : Texts.valueOf(texts[use], NAMES[use], values);
            return Math.max(0, Math.min(use == 0 ? 30 : 40, value));
        }

        int turn(Year y, int lion, int event) {
            int signs = 0;
            for (int bit = 0; bit < 8; bit++) {
                boolean known = (y.secret >> bit & 1) == 1;
                if ((event >> bit & 1) == 1 && known == (lion == 0)) {
                    signs++;
                }
            }
            return gives(0, signs, event % 16, y.year % 8);
        }

        void stir(Year y, int event) {
            for (int lion = 0; lion < 2; lion++) {
                y.turns[lion] = turn(y, lion, event);
            }
            for (int lion = 0; lion < 2; lion++) {
                y.jaws[lion] = (y.jaws[lion] + y.turns[lion]) % 360;
            }
        }

        int more(Gazer one, Year y, int had) {
            int lion = one.looks(y);
            int read = one.readBy(y, y.turns[lion], y.jaws[lion]);
            return Math.min(9999, had + gives(1, read, y.jaws[lion] % 10, y.year % 8));
        }

        void pass(int event) {
            stir(year, event);
            for (Gazer one : readers) {
                one.marks = more(one, year, one.marks);
            }
            year.year++;
        }

        Year thought() {
            Year y = new Year();
            y.year = year.year;
            y.secret = year.secret;
            y.jaws = year.jaws.clone();
            return y;
        }

        /** The LIONS n YEARS on; MARKS of one of READERS, too, if there is one. */
        int marksOn(Year y, Gazer one, int n) {
            int marks = one == null ? 0 : one.marks;
            for (int i = 0; i < n; i++) {
                stir(y, events[y.year % 6]);
                marks = one == null ? 0 : more(one, y, marks);
                y.year++;
            }
            return marks;
        }

        int jawOn(int secret, int lion, int n) {
            Year y = thought();
            y.secret = secret;
            marksOn(y, null, n);
            return y.jaws[lion];
        }

        List<Integer> fitting(int[] sheet, int lion) {
            List<Integer> all = new ArrayList<>();
            for (int secret = 0; secret < 256; secret++) {
                Year y = thought();
                y.secret = secret;
                boolean so = true;
                for (int i = 0; so && i < sheet.length; i++) {
                    marksOn(y, null, i == 0 ? 0 : 1);
                    so = y.jaws[lion] == sheet[i];
                }
                if (so) {
                    all.add(secret);
                }
            }
            return all;
        }

        int[] sheetOf(int sheet) {
            need(in(sheet, 0, 3), 1);
            need(sheets[sheet] != null, 2);
            return sheets[sheet];
        }

        int sum() {
            return readers.stream().mapToInt(one -> one.marks).sum();
        }

        /** Takes over all that an image keeps. */
        void takes(Model other) {
            year = other.thought();
            events = other.events.clone();
            readers = new ArrayList<>();
            for (Gazer one : other.readers) {
                Gazer copy = made(one.kind() * 10 + one.m);
                copy.marks = one.marks;
                copy.number = one.number;
                readers.add(copy);
            }
            texts = other.texts.clone();
            tape = other.tape;
            waiting = new ArrayList<>(other.waiting);
            z = other.z;
        }

        int answer(String call, long[] a) {
            try {
                return (int) act(call, a, a.length > 0 ? (int) a[0] : 0, a.length > 1 ? (int) a[1] : 0,
                        a.length > 2 ? (int) a[2] : 0);
            } catch (Refusal refusal) {
                told[refusal.k]++;
                return LOW - refusal.k;
            }
        }

        private long act(String call, long[] all, int a, int b, int c) {
            switch (call) {
                case "reader": {
                    need(in(a, 0, 69), 1);
                    need(readers.size() < 6, 4);
                    Gazer one = made(a);
                    one.number = readers.size();
                    readers.add(one);
                    return one.number;
                }
                case "readerIs": {
                    Gazer one = reader(a);
                    need(in(b, 0, 3), 1);
                    return new int[] {one.kind(), one.m, one.marks, one.looks(year)}[b];
                }
                case "become": {
                    Gazer one = reader(a);
                    need(in(b, 0, 69), 1);
                    Gazer next = made(b);
                    next.marks = one.marks;
                    next.number = a;
                    readers.set(a, next);
                    return one.kind();
                }
                case "as": {
                    Gazer one = reader(a);
                    need(in(b, 0, 6), 1);
                    need(isOf(one, b), 5);
                    return one.m;
                }
                case "marked": {
                    Gazer one = reader(a);
                    need(in(b, 0, 9999), 1);
                    int was = one.marks;
                    one.marks = b;
                    return was;
                }
                case "knows": {
                    need(in(a, 0, 255), 1);
                    int was = year.secret;
                    year.secret = a;
                    return was;
                }
                case "jawed": {
                    need(in(a, 0, 1) && in(b, 0, 359), 1);
                    int was = year.jaws[a];
                    year.jaws[a] = b;
                    return was;
                }
                case "happens": {
                    need(in(a, 0, 5) && in(b, 0, 255), 1);
                    int was = events[a];
                    events[a] = b;
                    return was;
                }
                case "sign":
                    need(in(a, 0, 1) && in(b, 0, 255), 1);
                    return turn(year, a, b);
                case "feed": {
                    need(in(b, 1, 8), 1);
                    need(tape.length() + b <= 60, 4);
                    for (int i = 0; i < b; i++) {
                        tape += (char) (all[0] >> 8 * i & 255);
                    }
                    return tape.length();
                }
                case "text": {
                    need(in(a, 0, 1), 1);
                    String text = tape;
                    tape = "";
                    int fault = Texts.faultOf(text, NAMES[a]);
                    if (fault < 0) {
                        texts[a] = text;
                    }
                    return fault < 0 ? 1 : -10 - fault;
                }
                case "untell": {
                    need(in(a, 0, 1), 1);
                    int was = texts[a] == null ? 0 : 1;
                    texts[a] = null;
                    return was;
                }
                case "law":
                    need(in(a, 0, 1), 1);
                    return gives(a, b, c, (int) all[3]);
                default:
                    return actInTime(call, all, a, b, c);
            }
        }

        private long actInTime(String call, long[] all, int a, int b, int c) {
            switch (call) {
                case "years":
                    need(in(a, 1, 60), 1);
                    need(year.year + a <= 9999, 3);
                    for (int i = 0; i < a; i++) {
                        pass(events[year.year % 6]);
                    }
                    return sum();
                case "loose":
                    need(in(a, 1, 30), 1);
                    need(year.year + a <= 9999, 3);
                    for (int i = 0; i < a; i++) {
                        z = (int) (z * 1103515245L + 12345);
                        pass((int) ((z & 0xffffffffL) / 256 % 256));
                    }
                    return sum();
                case "year": {
                    need(in(a, 0, 9999), 1);
                    int was = year.year;
                    year.year = a;
                    return was;
                }
                case "seed": {
                    int was = z;
                    z = a;
                    return was;
                }
                case "then":
                    need(in(a, 0, 1) && in(b, 0, 60), 1);
                    return jawOn(year.secret, a, b);
                case "marksThen": {
                    Gazer one = reader(a);
                    need(in(b, 0, 60), 1);
                    return marksOn(thought(), one, b);
                }
                case "laughs":
                    need(in(a, 0, 1) && in(b, 0, 359), 1);
                    for (int n = 0; n <= 60; n++) {
                        if (jawOn(year.secret, a, n) >= b) {
                            return n;
                        }
                    }
                    throw new Refusal(2);
                case "alike":
                    for (int n = 0; n <= 60; n++) {
                        if (jawOn(year.secret, 0, n) == jawOn(year.secret, 1, n)) {
                            return n;
                        }
                    }
                    throw new Refusal(2);
                case "fits": {
                    need(in(a, 0, 3) && in(b, 0, 1) && in(c, 0, 1), 1);
                    List<Integer> fits = fitting(sheetOf(a), b);
                    need(c == 0 || !fits.isEmpty(), 2);
                    return c == 0 ? fits.size() : fits.get(0);
                }
                case "question": {
                    need(in(a, 0, 3) && in(b, 0, 1) && in(c, 0, 1), 1);
                    List<Integer> fits = fitting(sheetOf(a), b);
                    need(!fits.isEmpty(), 3);
                    return questionOf(fits, b)[c];
                }
                case "odds": {
                    Gazer one = reader(a);
                    int n = c;
                    need(in(b, 0, 9999) && in(n, 0, 20) && in((int) all[3], 0, 1), 1);
                    int above = 0;
                    for (int secret = 0; secret < 256; secret++) {
                        Year y = thought();
                        y.secret = secret;
                        above += marksOn(y, one, n) >= b ? 1 : 0;
                    }
                    int by = java.math.BigInteger.valueOf(above).gcd(java.math.BigInteger.valueOf(256)).intValue();
                    return all[3] == 0 ? above / by : 256 / by;
                }
                default:
                    return actAside(call, all, a, b, c);
            }
        }

        private int[] questionOf(List<Integer> fits, int lion) {
            int[] best = {-1, 1000};
            int[][] turns = new int[256][fits.size()];
            for (int event = 0; event < 256; event++) {
                for (int i = 0; i < fits.size(); i++) {
                    int signs = Integer.bitCount(lion == 0 ? event & fits.get(i) : event & 255 - fits.get(i));
                    turns[event][i] = signs;
                }
                int[] by = new int[9];
                for (int signs = 0; signs < 9; signs++) {
                    by[signs] = gives(0, signs, event % 16, year.year % 8);
                }
                int[] groups = new int[31];
                for (int signs : turns[event]) {
                    groups[by[signs]]++;
                }
                int greatest = Arrays.stream(groups).max().getAsInt();
                if (greatest < best[1]) {
                    best = new int[] {event, greatest};
                }
            }
            return best;
        }

        private long actAside(String call, long[] all, int a, int b, int c) {
            switch (call) {
                case "voice": {
                    Gazer one = reader(a);
                    need(in(b, 0, 3), 1);
                    trace = new ArrayList<>();
                    return b == 0 ? one.stops(c) : b == 1 ? one.reads(c) : b == 2 ? one.asks(c) : one.parts(c);
                }
                case "body":
                    need(in(a, 0, trace.size() - 1), 2);
                    return trace.get(a);
                case "sheet":
                    need(in(a, 0, 3) && (b == 0 || b == 8 || b == 16 || b == 32), 1);
                    need(b == 0 || c >= 0, 3);
                    need(b == 0 || c <= 24, 1);
                    sheets[a] = b == 0 ? null : new int[c];
                    bits[a] = b;
                    return 1;
                case "put": {
                    int[] row = sheetOf(a);
                    need(in(b, 0, row.length - 1), 1);
                    row[b] = bits[a] == 8 ? (byte) c : bits[a] == 16 ? (short) c : c;
                    return 1;
                }
                case "move": {
                    int other = c;
                    int j = (int) all[3];
                    int n = (int) all[4];
                    need(in(a, 0, 3) && in(other, 0, 3), 1);
                    need(sheets[a] != null && sheets[other] != null, 2);
                    need(bits[a] == bits[other], 5);
                    need(n >= 0 && b >= 0 && j >= 0 && (long) b + n <= sheets[a].length
                            && (long) j + n <= sheets[other].length, 1);
                    int[] were = sheets[a].clone();
                    for (int i = 0; i < n; i++) {
                        sheets[other][j + i] = were[b + i];
                    }
                    return n;
                }
                case "markAll": {
                    int[] row = sheetOf(a);
                    for (int i = 0; i < row.length; i++) {
                        if (i >= readers.size() || !in(row[i], 0, 9999)) {
                            return i;
                        }
                        readers.get(i).marks = row[i];
                    }
                    return row.length;
                }
                case "judge": {
                    int[] row = sheetOf(a);
                    for (int i = 0; i < row.length; i++) {
                        if (i >= readers.size() || row[i] != readers.get(i).marks) {
                            return i;
                        }
                    }
                    return row.length;
                }
                case "image":
                    image = new Model();
                    image.takes(this);
                    return ++images;
                case "restore":
                    need(image != null, 2);
                    takes(image);
                    return year.year;
                case "tell":
                    need(waiting.size() < 24, 4);
                    waiting.add(a);
                    return waiting.size();
                case "check": {
                    List<Integer> all2 = waiting;
                    waiting = new ArrayList<>();
                    for (int i = 0; i < all2.size(); i++) {
                        if (i > 5 || all2.get(i) != turn(year, 0, events[i])) {
                            return 1 + i;
                        }
                    }
                    return 0;
                }
                case "count":
                    need(in(a, 0, 9), 1);
                    return new int[] {readers.size(), year.year, year.secret, year.jaws[0], year.jaws[1], sum(),
                        tape.length(), waiting.size(), trace.size(), z}[a];
                default:
                    need(in(a, 1, 6), 1);
                    return told[a];
            }
        }
    }

    private static int call(LionSigns x, String call, long[] all) {
        int a = all.length > 0 ? (int) all[0] : 0;
        int b = all.length > 1 ? (int) all[1] : 0;
        int c = all.length > 2 ? (int) all[2] : 0;
        int d = all.length > 3 ? (int) all[3] : 0;
        switch (call) {
            case "reader": return x.reader(a);
            case "readerIs": return x.readerIs(a, b);
            case "become": return x.become(a, b);
            case "as": return x.as(a, b);
            case "marked": return x.marked(a, b);
            case "knows": return x.knows(a);
            case "jawed": return x.jawed(a, b);
            case "happens": return x.happens(a, b);
            case "sign": return x.sign(a, b);
            case "feed": return x.feed(all[0], b);
            case "text": return x.text(a);
            case "untell": return x.untell(a);
            case "law": return x.law(a, b, c, d);
            case "years": return x.years(a);
            case "loose": return x.loose(a);
            case "year": return x.year(a);
            case "seed": return x.seed(a);
            case "then": return x.then(a, b);
            case "marksThen": return x.marksThen(a, b);
            case "laughs": return x.laughs(a, b);
            case "alike": return x.alike();
            case "fits": return x.fits(a, b, c);
            case "question": return x.question(a, b, c);
            case "odds": return x.odds(a, b, c, d);
            case "voice": return x.voice(a, b, c);
            case "body": return x.body(a);
            case "sheet": return x.sheet(a, b, c);
            case "put": return x.put(a, b, c);
            case "move": return x.move(a, b, c, d, (int) all[4]);
            case "markAll": return x.markAll(a);
            case "judge": return x.judge(a);
            case "image": return x.image();
            case "restore": return x.restore();
            case "tell": return x.tell(a);
            case "check": return x.check();
            case "count": return x.count(a);
            default: return x.told(a);
        }
    }

    /** One run: calls, as random as they have to be that much is reached. */
    private static final class Run {
        static final String[] CALLS_OF = ("reader,reader,readerIs,readerIs,become,as,marked,knows,jawed,happens,happens,"
                + "sign,sign,feed,write,write,write,text,untell,law,law,years,years,loose,year,seed,then,marksThen,"
                + "marksThen,laughs,alike,fits,fitted,fitted,question,odds,odds,voice,voice,voice,body,sheet,sheet,put,"
                + "put,put,move,move,marking,markAll,judge,judge,image,restore,tell,checked,check,count,count,told")
                .split(",");
        static final String STRAY = "bejry0159|&<=>+-*/%!() \0\u00e9";
        final Random random;
        final int run;
        final LionSigns x = new LionSigns();
        final Model model = new Model();
        final StringBuilder log = new StringBuilder();
        int calls;

        Run(int run) {
            this.run = run;
            random = new Random(7919L * run + 1);
        }

        int any(int low, int high) {
            if (random.nextInt(30) == 0) {
                int[] wild = {low - 1, high + 1, -1, Integer.MIN_VALUE, Integer.MAX_VALUE, random.nextInt()};
                return wild[random.nextInt(wild.length)];
            }
            return low + random.nextInt(high - low + 1);
        }

        int wild() {
            int[] some = {random.nextInt(), random.nextInt(100) - 50, Integer.MIN_VALUE, Integer.MAX_VALUE, 0};
            return some[random.nextInt(some.length)];
        }

        boolean both(String call, long... all) {
            int want = model.answer(call, all);
            int got = call(x, call, all);
            calls++;
            reached.add(call + (want < LOW ? LOW - want : ""));
            log.append("  ").append(call).append(Arrays.toString(all)).append(" -> ").append(got).append('\n');
            if (got != want) {
                wrong++;
                System.out.println("run " + run + ": due is " + want + " in the last row of\n" + log);
            }
            return got == want;
        }

        String someText(String names, int deep) {
            switch (random.nextInt(deep > 3 ? 3 : 9)) {
                case 0:
                    return String.valueOf(random.nextInt(random.nextBoolean() ? 40 : 10000));
                case 1:
                case 2:
                    return String.valueOf(names.charAt(random.nextInt(3)));
                case 3:
                    return "!" + someText(names, deep + 2);
                case 4:
                    return "(" + someText(names, deep) + ")";
                default:
                    return someText(names, deep + 1) + "|&<=>+-*/%+-*/%".charAt(random.nextInt(15))
                            + someText(names, deep + 1);
            }
        }

        boolean write() {
            int use = random.nextInt(2);
            StringBuilder text = new StringBuilder(someText(Model.NAMES[use], random.nextInt(4)));
            int spoil = random.nextInt(6);
            if (spoil == 0) {
                text.setCharAt(random.nextInt(text.length()), STRAY.charAt(random.nextInt(STRAY.length())));
            } else if (spoil == 1) {
                text.insert(random.nextInt(text.length() + 1), "!(((((");
            } else if (spoil == 2) {
                text.setLength(random.nextInt(text.length()));
            }
            boolean so = true;
            for (int i = 0; so && i < text.length(); i += 8) {
                int n = Math.min(8, text.length() - i);
                long word = random.nextLong();
                for (int j = n - 1; j >= 0; j--) {
                    long mask = 255L << 8 * j;
                    word = word & ~mask | (long) text.charAt(i + j) << 8 * j;
                }
                so = both("feed", word, n);
            }
            return so && both("text", any(use, use));
        }

        /** A SHEET that tells how a JAW goes by some SECRET. */
        boolean fitted() {
            int sheet = random.nextInt(4);
            int lion = random.nextInt(2);
            int n = random.nextInt(10) == 0 ? 24 : random.nextInt(5);
            int secret = random.nextInt(256);
            boolean so = both("sheet", sheet, random.nextInt(3) == 0 ? 8 : 16, n);
            for (int i = 0; so && i < n; i++) {
                so = both("put", sheet, i, model.jawOn(secret, lion, i));
            }
            return so && both("fits", sheet, lion, 0) && both("fits", sheet, lion, 1)
                    && both("question", sheet, lion, 0) && both("question", sheet, lion, 1);
        }

        /** All that stands in THE TRACE, and one place behind it. */
        boolean traced() {
            boolean so = both("count", 8);
            for (int i = 0; so && i <= model.trace.size(); i++) {
                so = both("body", i);
            }
            return so;
        }

        boolean flood() {
            boolean so = true;
            for (int i = 0; so && i < 8; i++) {
                so = both("feed", random.nextLong(), any(6, 8));
            }
            return so && both("text", any(0, 1));
        }

        boolean checked() {
            boolean so = true;
            int n = random.nextInt(20) == 0 ? 25 : random.nextInt(9);
            for (int i = 0; so && i < n; i++) {
                so = both("tell", model.turn(model.year, 0, model.events[i % 6]));
            }
            return so && both("check");
        }

        boolean marking() {
            int sheet = random.nextInt(4);
            int n = random.nextInt(8);
            boolean so = both("sheet", sheet, 8 << random.nextInt(3), n);
            for (int i = 0; so && i < n; i++) {
                boolean right = random.nextInt(4) > 0 && i < model.readers.size();
                so = both("put", sheet, i, right ? model.readers.get(i).marks : any(0, 9999));
            }
            return so && both(random.nextBoolean() ? "markAll" : "judge", sheet) && both("judge", sheet);
        }

        boolean next() {
            String call = CALLS_OF[random.nextInt(CALLS_OF.length)];
            int readers = Math.max(0, model.readers.size() - 1);
            switch (call) {
                case "reader": return both(call, any(0, 69));
                case "readerIs": return both(call, any(0, readers), any(0, 3));
                case "become": return both(call, any(0, readers), any(0, 69));
                case "as": return both(call, any(0, readers), any(0, 6));
                case "marked": return both(call, any(0, readers), any(random.nextBoolean() ? 0 : 9900, 9999));
                case "jawed": return both(call, any(0, 1), random.nextBoolean() ? any(0, 359) : any(340, 359));
                case "knows": return both(call, any(0, 255));
                case "happens": return both(call, any(0, 5), any(0, 255));
                case "sign": return both(call, any(0, 1), any(0, 255));
                case "feed": return random.nextInt(8) == 0 ? flood() : both(call, random.nextLong(), any(1, 8));
                case "write": return write();
                case "text": return both(call, any(0, 1));
                case "untell": return random.nextInt(3) > 0 || both(call, any(0, 1));
                case "law": return both(call, any(0, 1), wild(), wild(), wild());
                case "years": return both(call, random.nextBoolean() ? any(1, 60) : any(1, 3));
                case "loose": return both(call, random.nextBoolean() ? any(1, 30) : any(1, 3));
                case "year": return both(call, random.nextInt(4) == 0 ? any(9930, 9999) : any(0, 9999));
                case "seed": case "tell": return both(call, wild());
                case "then": return both(call, any(0, 1), any(0, 60));
                case "marksThen": return both(call, any(0, readers), any(0, 60));
                case "laughs": return both(call, any(0, 1), any(0, 359));
                case "fits": case "question": return both(call, any(0, 3), any(0, 1), any(0, 1));
                case "fitted": return fitted();
                case "checked": return checked();
                case "marking": return marking();
                case "odds": {
                    int reader = any(0, readers);
                    int n = any(0, 20);
                    int had = model.readers.isEmpty() ? 0 : model.readers.get(readers).marks;
                    int near = had + any(0, 12 * Math.abs(n % 21));
                    return both(call, reader, Math.min(near, 10000), n, 0) && both(call, reader, near, n, any(0, 1));
                }
                case "voice": return both(call, any(0, readers), any(0, 3), wild()) && traced();
                case "body": return both(call, any(0, 5));
                case "sheet": {
                    int bits = random.nextInt(9) == 0 ? any(0, 40) : 8 << random.nextInt(3);
                    return both(call, any(0, 3), bits, any(0, 24));
                }
                case "put": return both(call, any(0, 3), any(0, 9), random.nextBoolean() ? wild() : any(0, 300));
                case "move": return both(call, any(0, 3), any(0, 9), any(0, 3), any(0, 9), any(0, 9));
                case "markAll": case "judge": return both(call, any(0, 3));
                case "count": return both(call, any(0, 9));
                case "told": return both(call, any(1, 6));
                default: return both(call);
            }
        }

        boolean ends() {
            boolean so = true;
            for (int i = 0; so && i < 10; i++) {
                so = both("count", i);
            }
            for (int i = 1; so && i <= 6; i++) {
                so = both("told", i);
            }
            for (int i = 0; so && i < model.readers.size(); i++) {
                so = both("readerIs", i, 0) && both("readerIs", i, 2) && both("readerIs", i, 3);
            }
            return so;
        }
    }

    public static void main(String[] args) {
        for (int i = 0; i < RUNS && wrong < 3; i++) {
            Run run = new Run(i);
            boolean so = true;
            while (so && run.calls < CALLS) {
                so = run.next();
            }
            so = so && run.ends();
        }
        for (String pair : REFUSALS.split(" ")) {
            if (wrong == 0 && !reached.contains(pair)) {
                wrong++;
                System.out.println("no run has reached " + pair);
            }
        }
        System.out.println(wrong == 0 ? RUNS + " runs are as the model has it"
                : wrong + " are not as the model has it");
        if (wrong != 0) {
            System.exit(1);
        }
    }
}
