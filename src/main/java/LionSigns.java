import java.util.Arrays;

/** Two lions whose jaws turn, and those who read them: ../shared/DOC.md says what each call must do. */
public final class LionSigns {
    private static final int LOW = -1000000000;
    private static final int BEYOND = 1;
    private static final int NONE = 2;
    private static final int STATE = 3;
    private static final int FULL = 4;
    private static final int KIND = 5;
    private static final int PARTED = 6;

    private static final int LIONS = 2;
    private static final int PLACES = 6;
    private static final int MOST_READERS = 6;
    private static final int TAPE_BYTES = 60;
    private static final int MOST_WAITING = 24;
    private static final int SHEETS = 4;
    private static final int SHEET_NUMBERS = 24;
    private static final int TRACED = 30;
    private static final int SECRETS = 256;
    private static final int SIGN_COUNTS = 9;
    private static final int HIGHEST_BYTE = 255;
    private static final int HIGHEST_YEAR = 9999;
    private static final int HIGHEST_MARKS = 9999;
    private static final int HIGHEST_JAW = 359;
    private static final int HIGHEST_TURN = 30;
    private static final int HIGHEST_GAIN = 40;
    private static final int HIGHEST_READ = 65;
    private static final int HIGHEST_KM = 69;
    private static final int THINK_YEARS = 60;
    private static final int ODDS_YEARS = 20;
    private static final int DRAWN_YEARS = 30;
    private static final String TURN_NAMES = "bey";
    private static final String MARK_NAMES = "rjy";

    private final World now = new World(true);
    private final World kept = new World(false);
    private final Thoughts thoughts = new Thoughts();
    private final TextReader textReader = new TextReader();
    private final Voices voices = new Voices();
    private final Sheet[] sheets = new Sheet[SHEETS];
    private final int[] errors = new int[PARTED + 1];
    private int images;

    public LionSigns() {
        for (int i = 0; i < SHEETS; i++) {
            sheets[i] = new Sheet();
        }
    }

    // ---- lions, readers

    public int reader(int km) {
        if (!within(km, HIGHEST_KM)) {
            return no(BEYOND);
        }
        if (now.readers >= MOST_READERS) {
            return no(FULL);
        }
        int number = now.readers;
        now.readers = number + 1;
        now.kinds[number] = km / 10;
        now.ms[number] = km % 10;
        now.marks[number] = 0;
        return number;
    }

    public int readerIs(int reader, int what) {
        if (!isReader(reader) || !within(what, 3)) {
            return no(BEYOND);
        }
        switch (what) {
            case 0:
                return now.kinds[reader];
            case 1:
                return now.ms[reader];
            case 2:
                return now.marks[reader];
            default:
                return Kinds.looksAt(now.kinds[reader], now.ms[reader], now.lions);
        }
    }

    public int become(int reader, int km) {
        if (!isReader(reader) || !within(km, HIGHEST_KM)) {
            return no(BEYOND);
        }
        int was = now.kinds[reader];
        now.kinds[reader] = km / 10;
        now.ms[reader] = km % 10;
        return was;
    }

    public int as(int reader, int kind) {
        if (!isReader(reader) || !within(kind, Kinds.TOURIST)) {
            return no(BEYOND);
        }
        return Kinds.isOf(now.kinds[reader], kind) ? now.ms[reader] : no(KIND);
    }

    public int marked(int reader, int v) {
        if (!isReader(reader) || !within(v, HIGHEST_MARKS)) {
            return no(BEYOND);
        }
        int was = now.marks[reader];
        now.marks[reader] = v;
        return was;
    }

    public int knows(int v) {
        if (!within(v, HIGHEST_BYTE)) {
            return no(BEYOND);
        }
        int was = now.lions.secret;
        now.lions.secret = v;
        return was;
    }

    public int jawed(int lion, int v) {
        if (!isLion(lion) || !within(v, HIGHEST_JAW)) {
            return no(BEYOND);
        }
        int was = now.lions.jaws[lion];
        now.lions.jaws[lion] = v;
        return was;
    }

    public int happens(int place, int v) {
        if (!within(place, PLACES - 1) || !within(v, HIGHEST_BYTE)) {
            return no(BEYOND);
        }
        int was = now.events[place];
        now.events[place] = v;
        return was;
    }

    public int sign(int lion, int v) {
        if (!isLion(lion) || !within(v, HIGHEST_BYTE)) {
            return no(BEYOND);
        }
        return now.turnOf(now.lions, lion, v);
    }

    // ---- texts

    public int feed(long word, int n) {
        if (n < 1 || n > 8) {
            return no(BEYOND);
        }
        if (now.tapeSize > TAPE_BYTES - n) {
            return no(FULL);
        }
        for (int i = 0; i < n; i++) {
            now.tape[now.tapeSize + i] = (byte) (word >>> (8 * i));
        }
        now.tapeSize += n;
        return now.tapeSize;
    }

    public int text(int use) {
        if (!isUse(use)) {
            return no(BEYOND);
        }
        int fault = textReader.faultIn(now.tape, now.tapeSize, use == 0 ? TURN_NAMES : MARK_NAMES);
        now.tapeSize = 0;
        if (fault >= 0) {
            return -10 - fault;
        }
        now.lawOf(use).take(textReader.steps, textReader.length);
        return 1;
    }

    public int untell(int use) {
        if (!isUse(use)) {
            return no(BEYOND);
        }
        Law law = now.lawOf(use);
        int was = law.length > 0 ? 1 : 0;
        law.drop();
        return was;
    }

    public int law(int use, int a, int b, int c) {
        return isUse(use) ? now.lawOf(use).gives(a, b, c) : no(BEYOND);
    }

    // ---- years

    public int years(int n) {
        if (n < 1 || n > THINK_YEARS) {
            return no(BEYOND);
        }
        if (now.lions.year > HIGHEST_YEAR - n) {
            return no(STATE);
        }
        for (int i = 0; i < n; i++) {
            now.pass(now.eventIn(now.lions.year));
        }
        return now.allMarks();
    }

    public int loose(int n) {
        if (n < 1 || n > DRAWN_YEARS) {
            return no(BEYOND);
        }
        if (now.lions.year > HIGHEST_YEAR - n) {
            return no(STATE);
        }
        for (int i = 0; i < n; i++) {
            now.pass(now.draw() % SECRETS);
        }
        return now.allMarks();
    }

    public int year(int v) {
        if (!within(v, HIGHEST_YEAR)) {
            return no(BEYOND);
        }
        int was = now.lions.year;
        now.lions.year = v;
        return was;
    }

    public int seed(int v) {
        int was = now.z;
        now.z = v;
        return was;
    }

    // ---- what would be

    public int then(int lion, int n) {
        if (!isLion(lion) || !within(n, THINK_YEARS)) {
            return no(BEYOND);
        }
        return thoughts.jawAfter(now, lion, n);
    }

    public int marksThen(int reader, int n) {
        if (!isReader(reader) || !within(n, THINK_YEARS)) {
            return no(BEYOND);
        }
        return thoughts.marksAfter(now, reader, n, now.lions.secret);
    }

    public int laughs(int lion, int v) {
        if (!isLion(lion) || !within(v, HIGHEST_JAW)) {
            return no(BEYOND);
        }
        int years = thoughts.yearsToLaugh(now, lion, v);
        return years < 0 ? no(NONE) : years;
    }

    public int alike() {
        int years = thoughts.yearsToMatch(now);
        return years < 0 ? no(NONE) : years;
    }

    public int fits(int sheet, int lion, int what) {
        if (!isSheet(sheet) || !isLion(lion) || !within(what, 1)) {
            return no(BEYOND);
        }
        if (sheets[sheet].isMissing()) {
            return no(NONE);
        }
        thoughts.gather(now, sheets[sheet], lion);
        if (what == 0) {
            return thoughts.fitting;
        }
        return thoughts.fitting == 0 ? no(NONE) : thoughts.secrets[0];
    }

    public int question(int sheet, int lion, int what) {
        if (!isSheet(sheet) || !isLion(lion) || !within(what, 1)) {
            return no(BEYOND);
        }
        if (sheets[sheet].isMissing()) {
            return no(NONE);
        }
        thoughts.gather(now, sheets[sheet], lion);
        if (thoughts.fitting == 0) {
            return no(STATE);
        }
        thoughts.seekQuestion(now, lion);
        return what == 0 ? thoughts.bestEvent : thoughts.bestGroup;
    }

    public int odds(int reader, int v, int n, int part) {
        if (!isReader(reader) || !within(v, HIGHEST_MARKS)
                || !within(n, ODDS_YEARS) || !within(part, 1)) {
            return no(BEYOND);
        }
        int above = thoughts.chances(now, reader, v, n);
        int below = SECRETS;
        // All that can divide 256 are twos, so halving is enough for lowest terms.
        for (int i = 0; i < 8 && above % 2 == 0; i++) {
            above /= 2;
            below /= 2;
        }
        return part == 0 ? above : below;
    }

    // ---- voices, sheets, images, what is told

    public int voice(int reader, int voice, int x) {
        if (!isReader(reader) || !within(voice, 3)) {
            return no(BEYOND);
        }
        int answer = voices.speak(now.kinds[reader], reader, now.ms[reader], voice, x);
        return voices.parted ? no(PARTED) : answer;
    }

    public int body(int i) {
        return i >= 0 && i < voices.traced ? voices.trace[i] : no(NONE);
    }

    public int sheet(int sheet, int bits, int n) {
        if (!isSheet(sheet) || bits != 0 && bits != 8 && bits != 16 && bits != 32) {
            return no(BEYOND);
        }
        if (bits != 0 && n < 0) {
            return no(STATE);
        }
        if (bits != 0 && n > SHEET_NUMBERS) {
            return no(BEYOND);
        }
        sheets[sheet].begin(bits, bits == 0 ? 0 : n);
        return 1;
    }

    public int put(int sheet, int i, int v) {
        if (!isSheet(sheet)) {
            return no(BEYOND);
        }
        Sheet it = sheets[sheet];
        if (it.isMissing()) {
            return no(NONE);
        }
        if (i < 0 || i >= it.size) {
            return no(BEYOND);
        }
        it.numbers[i] = it.narrowed(v);
        return 1;
    }

    public int move(int sheet, int i, int other, int j, int n) {
        if (!isSheet(sheet) || !isSheet(other)) {
            return no(BEYOND);
        }
        Sheet from = sheets[sheet];
        Sheet to = sheets[other];
        if (from.isMissing() || to.isMissing()) {
            return no(NONE);
        }
        if (from.bits != to.bits) {
            return no(KIND);
        }
        if (!from.holds(i, n) || !to.holds(j, n)) {
            return no(BEYOND);
        }
        System.arraycopy(from.numbers, i, to.numbers, j, n);
        return n;
    }

    public int markAll(int sheet) {
        if (!isSheet(sheet)) {
            return no(BEYOND);
        }
        Sheet it = sheets[sheet];
        if (it.isMissing()) {
            return no(NONE);
        }
        int done = 0;
        while (done < it.size && done < now.readers && within(it.numbers[done], HIGHEST_MARKS)) {
            now.marks[done] = it.numbers[done];
            done++;
        }
        return done;
    }

    public int judge(int sheet) {
        if (!isSheet(sheet)) {
            return no(BEYOND);
        }
        Sheet it = sheets[sheet];
        if (it.isMissing()) {
            return no(NONE);
        }
        int right = 0;
        while (right < it.size && right < now.readers && it.numbers[right] == now.marks[right]) {
            right++;
        }
        return right;
    }

    public int image() {
        kept.copyFrom(now);
        images++;
        return images;
    }

    public int restore() {
        if (images == 0) {
            return no(NONE);
        }
        now.copyFrom(kept);
        return now.lions.year;
    }

    public int tell(int v) {
        if (now.waits >= MOST_WAITING) {
            return no(FULL);
        }
        now.waiting[now.waits] = v;
        now.waits++;
        return now.waits;
    }

    public int check() {
        int told = now.waits;
        now.waits = 0;
        for (int i = 0; i < told; i++) {
            if (i >= PLACES || now.waiting[i] != now.turnOf(now.lions, 0, now.events[i])) {
                return 1 + i;
            }
        }
        return 0;
    }

    public int count(int what) {
        switch (what) {
            case 0:
                return now.readers;
            case 1:
                return now.lions.year;
            case 2:
                return now.lions.secret;
            case 3:
                return now.lions.jaws[0];
            case 4:
                return now.lions.jaws[1];
            case 5:
                return now.allMarks();
            case 6:
                return now.tapeSize;
            case 7:
                return now.waits;
            case 8:
                return voices.traced;
            case 9:
                return now.z;
            default:
                return no(BEYOND);
        }
    }

    public int told(int k) {
        return k >= BEYOND && k <= PARTED ? errors[k] : no(BEYOND);
    }

    // ---- what the calls above ask

    /** Counts an ERROR, and gives its answer. */
    private int no(int error) {
        errors[error]++;
        return LOW - error;
    }

    private static boolean within(int v, int highest) {
        return v >= 0 && v <= highest;
    }

    private static boolean isLion(int lion) {
        return within(lion, LIONS - 1);
    }

    private static boolean isUse(int use) {
        return within(use, 1);
    }

    private static boolean isSheet(int sheet) {
        return within(sheet, SHEETS - 1);
    }

    private boolean isReader(int reader) {
        return reader >= 0 && reader < now.readers;
    }

    /** The LIONS with what they know, in one YEAR: the real ones, or thought ones. */
    private static final class Lions {
        int year;
        int secret;
        final int[] jaws = new int[LIONS];
        // How each turned latest, for those who read it; no more than a note within a YEAR.
        final int[] turns = new int[LIONS];

        void copyFrom(Lions other) {
            year = other.year;
            secret = other.secret;
            System.arraycopy(other.jaws, 0, jaws, 0, LIONS);
        }

        static int signsOf(int lion, int secret, int event) {
            return Integer.bitCount(event & (lion == 0 ? secret : ~secret));
        }
    }

    /** KINDS of READERS: which stands under which, where they look, what they read. */
    private static final class Kinds {
        static final int GAZER = 0;
        static final int SCHOLAR = 1;
        static final int DEPUTY = 2;
        static final int CHILD = 3;
        static final int ENEMY = 4;
        static final int CLERK = 5;
        static final int TOURIST = 6;
        // The KIND above each; GAZER, the highest, stands above itself.
        static final int[] ABOVE = {GAZER, GAZER, GAZER, GAZER, SCHOLAR, DEPUTY, GAZER};

        static int above(int kind) {
            return kind >= 0 && kind < ABOVE.length ? ABOVE[kind] : GAZER;
        }

        /** Whether a KIND is another one or stands under it. */
        static boolean isOf(int kind, int other) {
            return kind == other || above(kind) == other || above(above(kind)) == other;
        }

        static int looksAt(int kind, int m, Lions lions) {
            switch (kind) {
                case SCHOLAR:
                    return lions.year % 2;
                case ENEMY:
                    return 1 - lions.year % 2;
                case DEPUTY:
                case CLERK:
                    return m > 4 ? 1 - m % 2 : m % 2;
                case CHILD:
                    return lions.jaws[0] <= lions.jaws[1] ? 0 : 1;
                case TOURIST:
                    return 0;
                default:
                    return m % 2;
            }
        }

        /** What is read of a TURN and the JAW behind it, among so many READERS. */
        static int readsOf(int kind, int m, int turn, int jaw, int readers) {
            switch (kind) {
                case SCHOLAR:
                    return 2 * turn + jaw % 3;
                case ENEMY:
                    return 2 * turn + jaw % 3 + 3;
                case DEPUTY:
                    return turn + m;
                case CLERK:
                    return (turn + m) / 2 + readers;
                case CHILD:
                    return turn % 2;
                case TOURIST:
                    return m == 9 ? turn : 0;
                default:
                    return turn;
            }
        }
    }

    /** All that an IMAGE keeps. */
    private static final class World {
        final Lions lions = new Lions();
        final int[] events = {1, 2, 4, 8, 16, 32};
        int readers;
        final int[] kinds = new int[MOST_READERS];
        final int[] ms = new int[MOST_READERS];
        final int[] marks = new int[MOST_READERS];
        final Law turnLaw;
        final Law markLaw;
        final byte[] tape = new byte[TAPE_BYTES];
        int tapeSize;
        final int[] waiting = new int[MOST_WAITING];
        int waits;
        int z = 1;

        /** Only a world that is lived in remembers what its laws gave: an image is just kept. */
        World(boolean lived) {
            turnLaw = new Law(HIGHEST_TURN, lived ? SIGN_COUNTS : 0, 16);
            markLaw = new Law(HIGHEST_GAIN, lived ? HIGHEST_READ + 1 : 0, 10);
        }

        void copyFrom(World other) {
            lions.copyFrom(other.lions);
            System.arraycopy(other.events, 0, events, 0, PLACES);
            readers = other.readers;
            System.arraycopy(other.kinds, 0, kinds, 0, MOST_READERS);
            System.arraycopy(other.ms, 0, ms, 0, MOST_READERS);
            System.arraycopy(other.marks, 0, marks, 0, MOST_READERS);
            turnLaw.take(other.turnLaw.steps, other.turnLaw.length);
            markLaw.take(other.markLaw.steps, other.markLaw.length);
            System.arraycopy(other.tape, 0, tape, 0, TAPE_BYTES);
            tapeSize = other.tapeSize;
            System.arraycopy(other.waiting, 0, waiting, 0, MOST_WAITING);
            waits = other.waits;
            z = other.z;
        }

        Law lawOf(int use) {
            return use == 0 ? turnLaw : markLaw;
        }

        int eventIn(int year) {
            return events[Math.floorMod(year, PLACES)];
        }

        int draw() {
            z = z * 1103515245 + 12345;
            return z >>> 8;
        }

        int allMarks() {
            int sum = 0;
            for (int i = 0; i < readers; i++) {
                sum += marks[i];
            }
            return sum;
        }

        int turnOf(Lions some, int lion, int event) {
            return turnLaw.gives(Lions.signsOf(lion, some.secret, event), event % 16, some.year % 8);
        }

        /** Both of some LIONS turn by an EVENT. */
        void stir(Lions some, int event) {
            for (int lion = 0; lion < LIONS; lion++) {
                some.turns[lion] = turnOf(some, lion, event);
                some.jaws[lion] = (some.jaws[lion] + some.turns[lion]) % (HIGHEST_JAW + 1);
            }
        }

        /** MARKS of a reader who had so many, when some LIONS have turned. */
        int grown(int reader, int had, Lions some) {
            int lion = Kinds.looksAt(kinds[reader], ms[reader], some);
            int jaw = some.jaws[lion];
            int reads = Kinds.readsOf(kinds[reader], ms[reader], some.turns[lion], jaw, readers);
            return Math.min(HIGHEST_MARKS, had + markLaw.gives(reads, jaw % 10, some.year % 8));
        }

        /** A YEAR goes by, with an EVENT. */
        void pass(int event) {
            stir(lions, event);
            for (int i = 0; i < readers; i++) {
                marks[i] = grown(i, marks[i], lions);
            }
            lions.year++;
        }
    }

    /** What a USE gives: by its TEXT, as steps for a stack of numbers, or without one. */
    private static final class Law {
        static final int YEARS = 8;

        final int highest;
        final int spanA;
        final int spanB;
        // By what stands for the NAMES in a YEAR: what was given, and 1 (0: not yet asked).
        final int[] memory;
        // A number, or -1 .. -3 for a NAME, or a sign of the TEXT, negated.
        final int[] steps = new int[TAPE_BYTES];
        final int[] stack = new int[TAPE_BYTES];
        // How many steps there are: 0 is no TEXT.
        int length;

        Law(int highest, int spanA, int spanB) {
            this.highest = highest;
            this.spanA = spanA;
            this.spanB = spanB;
            memory = new int[Math.max(0, spanA * spanB * YEARS)];
        }

        void take(int[] newSteps, int newLength) {
            length = Math.max(0, Math.min(newLength, Math.min(newSteps.length, steps.length)));
            System.arraycopy(newSteps, 0, steps, 0, length);
            Arrays.fill(memory, 0);
        }

        void drop() {
            length = 0;
            Arrays.fill(memory, 0);
        }

        int gives(int a, int b, int c) {
            int place = placeOf(a, b, c);
            if (place < 0) {
                return work(a, b, c);
            }
            if (memory[place] == 0) {
                memory[place] = work(a, b, c) + 1;
            }
            return memory[place] - 1;
        }

        /** Where the memory has these numbers; -1, if it hasn't. */
        private int placeOf(int a, int b, int c) {
            if (a < 0 || a >= spanA || b < 0 || b >= spanB || c < 0 || c >= YEARS) {
                return -1;
            }
            return (c * spanB + b) * spanA + a;
        }

        private int work(int a, int b, int c) {
            int value = a;
            int high = 0;
            for (int i = 0; i < length; i++) {
                int step = steps[i];
                if (step >= 0) {
                    value = step;
                } else if (step >= -3) {
                    value = step == -1 ? a : step == -2 ? b : c;
                } else if (step == -'!') {
                    high--;
                    value = high >= 0 && high < stack.length && stack[high] == 0 ? 1 : 0;
                } else {
                    high -= 2;
                    value = high >= 0 && high + 1 < stack.length ? join(-step, stack[high], stack[high + 1]) : 0;
                }
                if (high >= 0 && high < stack.length) {
                    stack[high] = value;
                }
                high++;
            }
            return Math.max(0, Math.min(highest, value));
        }

        private static int join(int sign, int p, int q) {
            switch (sign) {
                case '|':
                    return p != 0 || q != 0 ? 1 : 0;
                case '&':
                    return p != 0 && q != 0 ? 1 : 0;
                case '<':
                    return p < q ? 1 : 0;
                case '=':
                    return p == q ? 1 : 0;
                case '>':
                    return p > q ? 1 : 0;
                case '+':
                    return p + q;
                case '-':
                    return p - q;
                case '*':
                    return p * q;
                case '/':
                    return q == 0 ? 0 : p / q;
                default:
                    return q == 0 ? 0 : p % q;
            }
        }
    }

    /** Reads a TEXT from bytes into the steps of a Law. */
    private static final class TextReader {
        static final int MOST_OPEN = 5;
        static final int COMPARING = 2;
        static final int SINGLE = 5;
        static final int MOST_DIGITS = 4;

        final byte[] bytes = new byte[TAPE_BYTES];
        int size;
        int at;
        String names = "";
        final int[] steps = new int[TAPE_BYTES];
        int length;

        /** The FAULT of a TEXT with these NAMES; -1, if there is none. */
        int faultIn(byte[] tape, int tapeSize, String useNames) {
            size = Math.max(0, Math.min(tapeSize, Math.min(tape.length, bytes.length)));
            System.arraycopy(tape, 0, bytes, 0, size);
            names = useNames;
            at = 0;
            length = 0;
            boolean whole = readLevel(0, 0) && at == size;
            return whole ? -1 : at;
        }

        /** From 0, which binds least, on: | & (< = >) (+ -) (* / %), a single Q; how many ! and ( are open. */
        private boolean readLevel(int level, int open) {
            if (level >= SINGLE) {
                return readSingle(open);
            }
            if (!readLevel(level + 1, open)) {
                return false;
            }
            int most = level == COMPARING ? 1 : TAPE_BYTES;
            for (int i = 0; i < most && levelOf(next()) == level; i++) {
                int sign = next();
                at++;
                if (!readLevel(level + 1, open)) {
                    return false;
                }
                add(-sign);
            }
            return true;
        }

        private static int levelOf(int sign) {
            switch (sign) {
                case '|':
                    return 0;
                case '&':
                    return 1;
                case '<':
                case '=':
                case '>':
                    return COMPARING;
                case '+':
                case '-':
                    return 3;
                case '*':
                case '/':
                case '%':
                    return 4;
                default:
                    return -1;
            }
        }

        private boolean readSingle(int open) {
            int sign = next();
            if (isDigit(sign)) {
                readNumber();
                return true;
            }
            int name = sign < 0 ? -1 : names.indexOf((char) sign);
            if (name >= 0) {
                at++;
                add(-1 - name);
                return true;
            }
            if (open >= MOST_OPEN || sign != '!' && sign != '(') {
                return false;
            }
            at++;
            return sign == '!' ? readDenied(open + 1) : readClosed(open + 1);
        }

        private boolean readDenied(int open) {
            if (!readSingle(open)) {
                return false;
            }
            add(-'!');
            return true;
        }

        private boolean readClosed(int open) {
            if (!readLevel(0, open) || next() != ')') {
                return false;
            }
            at++;
            return true;
        }

        private void readNumber() {
            int value = 0;
            for (int digits = 0; digits < MOST_DIGITS && isDigit(next()); digits++) {
                value = value * 10 + next() - '0';
                at++;
            }
            add(value);
        }

        private static boolean isDigit(int sign) {
            return sign >= '0' && sign <= '9';
        }

        /** The byte that comes next; -1, if there is none. */
        private int next() {
            return at >= 0 && at < size ? bytes[at] & 255 : -1;
        }

        private void add(int step) {
            if (length >= 0 && length < steps.length) {
                steps[length] = step;
                length++;
            }
        }
    }

    /** What would be: all on LIONS and rows of its own, so that nothing of the World changes. */
    private static final class Thoughts {
        final Lions lions = new Lions();
        // The SECRETS that FIT, the least first, and how many they are.
        final int[] secrets = new int[SECRETS];
        int fitting;
        int bestEvent;
        int bestGroup;
        final int[] turnBySigns = new int[SIGN_COUNTS];
        final int[] groups = new int[HIGHEST_TURN + 1];

        private void stirYear(World world) {
            world.stir(lions, world.eventIn(lions.year));
            lions.year++;
        }

        int jawAfter(World world, int lion, int n) {
            lions.copyFrom(world.lions);
            for (int i = 0; i < n; i++) {
                stirYear(world);
            }
            return lions.jaws[lion];
        }

        int marksAfter(World world, int reader, int n, int secret) {
            lions.copyFrom(world.lions);
            lions.secret = secret;
            int marks = world.marks[reader];
            for (int i = 0; i < n; i++) {
                world.stir(lions, world.eventIn(lions.year));
                marks = world.grown(reader, marks, lions);
                lions.year++;
            }
            return marks;
        }

        /** -1: not by 60. */
        int yearsToLaugh(World world, int lion, int v) {
            lions.copyFrom(world.lions);
            for (int n = 0; n <= THINK_YEARS; n++) {
                if (lions.jaws[lion] >= v) {
                    return n;
                }
                stirYear(world);
            }
            return -1;
        }

        /** -1: not by 60. */
        int yearsToMatch(World world) {
            lions.copyFrom(world.lions);
            for (int n = 0; n <= THINK_YEARS; n++) {
                if (lions.jaws[0] == lions.jaws[1]) {
                    return n;
                }
                stirYear(world);
            }
            return -1;
        }

        void gather(World world, Sheet sheet, int lion) {
            fitting = 0;
            for (int secret = 0; secret < SECRETS; secret++) {
                lions.copyFrom(world.lions);
                lions.secret = secret;
                if (fitting < SECRETS && tells(world, sheet, lion)) {
                    secrets[fitting] = secret;
                    fitting++;
                }
            }
        }

        private boolean tells(World world, Sheet sheet, int lion) {
            for (int i = 0; i < sheet.size; i++) {
                if (i > 0) {
                    world.stir(lions, world.eventIn(lions.year));
                    lions.year++;
                }
                if (lions.jaws[lion] != sheet.numbers[i]) {
                    return false;
                }
            }
            return true;
        }

        void seekQuestion(World world, int lion) {
            bestGroup = SECRETS + 1;
            for (int event = 0; event < SECRETS; event++) {
                for (int signs = 0; signs < SIGN_COUNTS; signs++) {
                    turnBySigns[signs] = world.turnLaw.gives(signs, event % 16, world.lions.year % 8);
                }
                int group = greatestGroup(lion, event);
                if (group < bestGroup) {
                    bestGroup = group;
                    bestEvent = event;
                }
            }
        }

        /** How many SECRETS that FIT give one and the same TURN, at most. */
        private int greatestGroup(int lion, int event) {
            Arrays.fill(groups, 0);
            int greatest = 0;
            for (int i = 0; i < fitting; i++) {
                int signs = Lions.signsOf(lion, secrets[i], event);
                int turn = signs < SIGN_COUNTS ? turnBySigns[signs] : -1;
                if (turn >= 0 && turn <= HIGHEST_TURN) {
                    groups[turn]++;
                    greatest = Math.max(greatest, groups[turn]);
                }
            }
            return greatest;
        }

        /** By how many SECRETS a reader has v MARKS or more, n YEARS on. */
        int chances(World world, int reader, int v, int n) {
            int many = 0;
            for (int secret = 0; secret < SECRETS; secret++) {
                if (marksAfter(world, reader, n, secret) >= v) {
                    many++;
                }
            }
            return many;
        }
    }

    /** VOICES, and THE TRACE of the latest, also of one that parted. */
    private static final class Voices {
        static final int STOPS = 0;
        static final int READS = 1;
        static final int ASKS = 2;
        static final int PARTS = 3;
        static final int DEEPEST = 40;
        // By KIND, four for each: the BODY of its own, or of the next KIND above that has one.
        static final int[] BODIES = {
            10, 11, 12, 13,
            20, 11, 12, 21,
            10, 30, 12, 13,
            10, 11, 40, 13,
            50, 11, 51, 21,
            10, 60, 12, 13,
            70, 71, 12, 13,
        };

        int kind;
        int k;
        int m;
        boolean parted;
        final int[] trace = new int[TRACED];
        int traced;

        /** What a reader answers; nothing that counts, if it parted. */
        int speak(int readerKind, int number, int readerM, int voice, int x) {
            kind = readerKind;
            k = number;
            m = readerM;
            parted = false;
            traced = 0;
            return own(voice, x, 0);
        }

        private int own(int voice, int x, int depth) {
            return from(kind, voice, x, depth);
        }

        /** As the KIND above the BODY's does it. */
        private int above(int body, int voice, int x, int depth) {
            return from(Kinds.above(body / 10 - 1), voice, x, depth);
        }

        private int from(int someKind, int voice, int x, int depth) {
            int place = 4 * someKind + voice;
            if (parted || depth >= DEEPEST || place < 0 || place >= BODIES.length) {
                return 0;
            }
            int body = BODIES[place];
            if (traced < TRACED) {
                trace[traced] = body;
                traced++;
            }
            return run(body, x, depth + 1);
        }

        private int run(int body, int x, int depth) {
            switch (body) {
                case 10:
                    return x + k;
                case 11:
                    return own(STOPS, x, depth) * 2;
                case 12:
                    return own(READS, x, depth) - m;
                case 13:
                    parted = m == k;
                    return m == k ? 0 : x / (m - k);
                case 20:
                    return above(body, STOPS, x, depth) - 4;
                case 21:
                    return above(body, PARTS, x, depth) + own(READS, 1, depth);
                case 30:
                    return 0 - above(body, READS, x, depth);
                case 40:
                    return above(body, ASKS, x / 2, depth);
                case 50:
                    return above(body, STOPS, x, depth) * 3;
                case 51:
                    return above(body, ASKS, x, depth) ^ k;
                case 60:
                    return above(body, READS, x + 1, depth);
                case 70:
                    return 9;
                case 71:
                    return above(body, READS, x, depth) + m;
                default:
                    return 0;
            }
        }
    }

    /** A SHEET; its numbers are kept as they are read, a row of 8 or 16 bits with its sign. */
    private static final class Sheet {
        int bits;
        int size;
        final int[] numbers = new int[SHEET_NUMBERS];

        boolean isMissing() {
            return bits == 0;
        }

        void begin(int newBits, int newSize) {
            bits = newBits;
            size = newSize;
            Arrays.fill(numbers, 0);
        }

        int narrowed(int v) {
            switch (bits) {
                case 8:
                    return (byte) v;
                case 16:
                    return (short) v;
                default:
                    return v;
            }
        }

        /** Whether n numbers stand from number i on. */
        boolean holds(int i, int n) {
            return i >= 0 && n >= 0 && i <= size - n;
        }
    }
}
