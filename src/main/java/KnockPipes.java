/** Pipes that knock. What each call promises stands in ../shared/DOC.md. */
public final class KnockPipes {
    public static final int NONE = -1, BAD = -2, STATE = -3, FULL = -4;
    public static final long NO = Long.MIN_VALUE;

    private static final int NOBODY = -5, OTHER_KIND = -6, FIRST_FAULT = -10;
    private static final int MINUTES = 40, PLACES = 10, NOISES = 10, ROWS = 12, HOUSES = 5, BYTES = 120;
    private static final int MOST_V = 9, MOST_LOUDNESS = 40, MOST_WARMTH = 99, MOST_TOLD = 99;
    private static final long WHOLE_DAY = (1L << MINUTES) - 1, EVERY_TENTH = 0x40100401L;

    private static final int BOILER = 0, TAP = 1, PUMP = 2, GOINGS_ON = 3;
    private static final int WARM = 0, COOL = 1, IRON = 2, AIR = 3, HEAR = 4, NUMBERS = 5;
    private static final int[] WITHOUT = {3, 1, 1, 4, 1};
    private static final int LOST_TO_IRON = 5;

    private static final int NOISE = 0, TICKING = 1, STRUCK = 2, HUMMING = 3, STEAMED = 4, GURGLING = 5,
        NEXT_DOOR = 6, KINDS = 7;
    private static final int NO_KIND = -1;

    private static final int GROWS = 0, STRIKES = 1, TELLS = 2, ACTS = 3;

    private final Home now = new Home();
    private final Home kept = new Home();
    private boolean imaged = false;
    private final Reader reader = new Reader();
    private final Sounds sounds = new Sounds();
    private final Acts acts = new Acts();
    /** Whether the sounds stand for what there is now: what changes it, or asks what if, unsettles them. */
    private boolean settled = false;
    /** What each noise alone adds to a row or to a day, row by row. */
    private final int[] shares = new int[ROWS * NOISES];

    public KnockPipes() {
    }

    // ---- days, houses

    public int day(int what, long bits) {
        if (what < 0 || what >= GOINGS_ON) return NONE;
        if (bits < 0 || bits > WHOLE_DAY) return BAD;
        int was = Long.bitCount(now.day[what]);
        now.day[what] = bits;
        settled = false;
        return was;
    }

    public int feed(long w, int n) {
        if (n < 1 || n > 8) return BAD;
        if (now.tape.size + n > BYTES) return FULL;
        for (int left = n - 1; left >= 0; left--) now.tape.add((int) (w >> (8 * left)) & 255);
        return now.tape.size;
    }

    public int house() {
        if (now.houses >= HOUSES) return FULL;
        boolean whole = reader.reads(now.tape);
        now.tape.size = 0;
        if (!whole) return FIRST_FAULT - reader.at;
        now.house.copy(reader.draft);
        settled = false;
        return now.houses++;
    }

    public int told(int what) {
        if (what < 0 || what >= NUMBERS) return NONE;
        return now.house.numbers[what];
    }

    public int warmth(int minute) {
        if (!isMinute(minute)) return NONE;
        settle();
        return sounds.warmth[minute];
    }

    // ---- noises

    public int noise(int kind, int place, int v, int loudness) {
        if (!isKind(kind) || !isPlace(place)) return NONE;
        if (v < 0 || v > MOST_V || loudness < 1 || loudness > MOST_LOUDNESS) return BAD;
        if (now.noises.count >= NOISES) return FULL;
        settled = false;
        return now.noises.add(kind, place, v, loudness);
    }

    public int of(int noise, int what) {
        if (!now.noises.has(noise)) return NONE;
        switch (what) {
            case 0: return now.noises.kind[noise];
            case 1: return now.noises.place[noise];
            case 2: return now.noises.v[noise];
            case 3: return now.noises.loudness[noise];
            case 4: return now.noises.still >> noise & 1;
            default: return NONE;
        }
    }

    public int still(int noise, boolean is) {
        if (!now.noises.has(noise)) return NONE;
        int was = now.noises.still >> noise & 1;
        if (is) now.noises.still |= 1 << noise;
        else now.noises.still &= ~(1 << noise);
        return was;
    }

    public int knocks(int noise, int minute, int what) {
        if (!now.noises.has(noise) || !isMinute(minute)) return NONE;
        settle();
        switch (what) {
            case 0: return sounds.lengthOf(noise, minute);
            case 1: return sounds.holdOf(noise, minute);
            case 2: return now.noises.isLoose(noise) ? sounds.knocksOf(noise, minute) : 0;
            default: return NONE;
        }
    }

    public int loud(int noise, int place, int minute) {
        if (!now.noises.has(noise) || !isPlace(place) || !isMinute(minute)) return NONE;
        settle();
        return loudOf(noise, place, minute);
    }

    // ---- hearing

    public int heard(int place, int minute) {
        if (!isPlace(place) || minute != -1 && !isMinute(minute)) return NONE;
        settle();
        return minute == -1 ? heardInDay(place) : heardAt(place, minute);
    }

    public int seems(int minute) {
        if (!isMinute(minute)) return NONE;
        settle();
        int best = NOBODY;
        int most = 0;
        for (int place = 0; place < PLACES; place++) {
            int all = loudOfAll(place, minute);
            if (all > most) {
                most = all;
                best = place;
            }
        }
        return best;
    }

    public int note(int place, int minute, int n) {
        if (!isPlace(place) || !isMinute(minute)) return NONE;
        if (n < 0 || n > MOST_TOLD) return BAD;
        if (now.book.count >= ROWS) return FULL;
        return now.book.add(place, minute, n);
    }

    public int clear() {
        int had = now.book.count;
        now.book.count = 0;
        return had;
    }

    public int fits(int noise) {
        if (!now.noises.has(noise)) return NONE;
        settle();
        return fittingRows(noise);
    }

    public int odds(int noise, int part) {
        if (!now.noises.has(noise) || part < 0 || part > 1) return NONE;
        settle();
        int all = 0;
        for (int i = 0; i < now.noises.count; i++) all += Integer.bitCount(fittingRows(i));
        if (all == 0) return part;
        int own = Integer.bitCount(fittingRows(noise));
        int shared = greatestShared(own, all);
        if (shared < 1) return part;
        return (part == 0 ? own : all) / shared;
    }

    public int which(int what) {
        settle();
        switch (what) {
            case 0: return mostFitting();
            case 1: return allFitting();
            case 2: return worst();
            default: return NONE;
        }
    }

    public int next() {
        if (now.noises.count == 0) return NOBODY;
        settle();
        int best = NOBODY;
        int fewest = NOISES + 1;
        for (int place = 0; place < PLACES; place++) {
            for (int minute = 0; minute < MINUTES; minute++) {
                int alike = mostAlike(place, minute);
                if (alike < fewest) {
                    fewest = alike;
                    best = 100 * place + minute;
                }
            }
        }
        return best;
    }

    // ---- what to do

    public int least(int place, int n) {
        if (!isPlace(place)) return NONE;
        if (n < 0 || n > MOST_TOLD) return BAD;
        settle();
        int loose = now.noises.loose();
        for (int i = 0; i < now.noises.count; i++) shares[i] = heardInDayOf(i, place);
        int best = loose;
        for (int set = 0; set < 1 << now.noises.count; set++) {
            boolean may = (set & ~loose) == 0 && Integer.bitCount(set) < Integer.bitCount(best);
            if (may && shareOf(0, loose & ~set) <= n) best = set;
        }
        return best;
    }

    public int eased(int place, int c) {
        if (!isPlace(place)) return NONE;
        if (c < 0 || c > MOST_LOUDNESS) return BAD;
        settle();
        int less = 0;
        for (int i = 0; i < now.noises.count; i++) {
            if (!now.noises.isLoose(i) || !isUnder(now.noises.kind[i], STRUCK)) continue;
            int was = now.noises.loudness[i];
            less += heardInDayOf(i, place);
            now.noises.loudness[i] = Math.max(1, was - c);
            less -= heardInDayOf(i, place);
            now.noises.loudness[i] = was;
        }
        return less;
    }

    public long parted(int a, int b) {
        if (!now.noises.has(a) || !now.noises.has(b) || a == b) return NO;
        settle();
        return sounds.knockingOf(a) ^ sounds.knockingOf(b);
    }

    public int quiet(int what) {
        if (what < 0 || what > 1) return NONE;
        settle();
        ring(0, 0, 0);
        int knocking = 0;
        for (int i = 0; i < now.noises.count; i++) {
            if (now.noises.isLoose(i) && sounds.knockingOf(i) != 0) knocking |= 1 << i;
        }
        settled = false;
        if (what == 1) return knocking;
        return knocking == 0 ? 1 : 0;
    }

    public int moved(int noise, int place) {
        if (!now.noises.has(noise) || !isPlace(place)) return NONE;
        // a still one adds nothing wherever it is, so the least place is as good as any
        if (!now.noises.isLoose(noise)) return 0;
        settle();
        int was = now.noises.place[noise];
        int best = 0;
        int fewest = 0;
        for (int to = 0; to < PLACES; to++) {
            now.noises.place[noise] = to;
            sounds.read(now.house, now.noises, noise);
            sounds.knock(now.noises, noise, now.day[TAP], now.day[PUMP]);
            int adds = heardInDayOf(noise, place);
            if (to == 0 || adds < fewest) {
                fewest = adds;
                best = to;
            }
        }
        now.noises.place[noise] = was;
        settled = false;
        return best;
    }

    public int older() {
        settle();
        int due = rowsHeard();
        int later = MINUTES;
        for (; later > 0; later--) {
            ring(now.day[BOILER] << later & WHOLE_DAY, now.day[TAP], now.day[PUMP]);
            if (rowsHeard() >= due) break;
        }
        settled = false;
        return later;
    }

    public int harm(int noise) {
        if (!now.noises.has(noise)) return NONE;
        settle();
        return harmOf(noise);
    }

    // ---- acts, the image

    public int act(int noise, int act, int x) {
        acts.ran = 0;
        if (!now.noises.has(noise) || act < 0 || act >= ACTS) return 0;
        return acts.start(now.noises, noise, act, x);
    }

    public int trace(int i) {
        if (i < 0 || i >= acts.ran || i >= acts.trace.length) return NONE;
        return acts.trace[i];
    }

    public int as(int noise, int k) {
        if (!now.noises.has(noise) || !isKind(k)) return NONE;
        return isUnder(now.noises.kind[noise], k) ? now.noises.v[noise] : OTHER_KIND;
    }

    public int image() {
        kept.copy(now);
        imaged = true;
        return now.noises.count;
    }

    public int undo() {
        if (!imaged) return STATE;
        now.copy(kept);
        settled = false;
        return now.noises.count;
    }

    public int count(int what) {
        switch (what) {
            case 0: return now.noises.count;
            case 1: return now.houses;
            case 2: return now.book.count;
            case 3: return now.tape.size;
            case 4: return acts.ran;
            default: return NONE;
        }
    }

    // ---- what several calls ask

    private static boolean isMinute(int minute) {
        return minute >= 0 && minute < MINUTES;
    }

    private static boolean isPlace(int place) {
        return place >= 0 && place < PLACES;
    }

    private static boolean isKind(int kind) {
        return kind >= 0 && kind < KINDS;
    }

    /** No table: Java 17's compiler may read one at NO_KIND, ahead of the test that forbids it, and crash. */
    private static int above(int kind) {
        switch (kind) {
            case TICKING: case STRUCK: case HUMMING: return NOISE;
            case STEAMED: return TICKING;
            case GURGLING: return STRUCK;
            case NEXT_DOOR: return HUMMING;
            default: return NO_KIND;
        }
    }

    /** Whether a kind is another, or stands under it: two kinds at most are above one. */
    private static boolean isUnder(int kind, int other) {
        return kind == other || above(kind) == other || above(above(kind)) == other;
    }

    private static int greatestShared(int a, int b) {
        int great = a;
        int small = b;
        for (int step = 0; step < 100 && small != 0; step++) {
            int rest = great % small;
            great = small;
            small = rest;
        }
        return great;
    }

    private void settle() {
        if (settled) return;
        for (int i = 0; i < now.noises.count; i++) sounds.read(now.house, now.noises, i);
        ring(now.day[BOILER], now.day[TAP], now.day[PUMP]);
        settled = true;
    }

    /** Works out a day of these rows, which may be one that is only asked about. */
    private void ring(long boiler, long tap, long pump) {
        sounds.warm(now.house, boiler);
        for (int i = 0; i < now.noises.count; i++) sounds.knock(now.noises, i, tap, pump);
    }

    private int loudOf(int i, int place, int minute) {
        int loudness = now.noises.loudness[i];
        int off = Math.abs(now.noises.place[i] - place);
        int loud = Math.max(0, loudness - now.house.numbers[AIR] * off);
        if (sounds.warmth[minute] > 0 || isUnder(now.noises.kind[i], STRUCK)) {
            loud = Math.max(loud, loudness - LOST_TO_IRON - now.house.numbers[IRON] * off);
        }
        return loud;
    }

    /** What one noise adds there, were it not still. */
    private int heardAlone(int i, int place, int minute) {
        if (loudOf(i, place, minute) < now.house.numbers[HEAR]) return 0;
        return sounds.knocksOf(i, minute);
    }

    private int heardInDayOf(int i, int place) {
        int sum = 0;
        for (int minute = 0; minute < MINUTES; minute++) sum += heardAlone(i, place, minute);
        return sum;
    }

    private int heardAt(int place, int minute) {
        int sum = 0;
        for (int i = 0; i < now.noises.count; i++) {
            if (now.noises.isLoose(i)) sum += heardAlone(i, place, minute);
        }
        return sum;
    }

    private int heardInDay(int place) {
        int sum = 0;
        for (int minute = 0; minute < MINUTES; minute++) sum += heardAt(place, minute);
        return sum;
    }

    private int loudOfAll(int place, int minute) {
        int sum = 0;
        for (int i = 0; i < now.noises.count; i++) {
            boolean does = now.noises.isLoose(i) && sounds.knocksOf(i, minute) > 0;
            if (does) sum += loudOf(i, place, minute);
        }
        return sum;
    }

    private int fittingRows(int i) {
        int rows = 0;
        for (int row = 0; row < now.book.count; row++) {
            if (heardAlone(i, now.book.place[row], now.book.minute[row]) == now.book.n[row]) rows |= 1 << row;
        }
        return rows;
    }

    private int mostFitting() {
        int best = NOBODY;
        int most = -1;
        for (int i = 0; i < now.noises.count; i++) {
            int rows = Integer.bitCount(fittingRows(i));
            if (rows > most) {
                most = rows;
                best = i;
            }
        }
        return best;
    }

    private int allFitting() {
        for (int row = 0; row < now.book.count; row++) {
            for (int i = 0; i < now.noises.count; i++) {
                shares[row * NOISES + i] = heardAlone(i, now.book.place[row], now.book.minute[row]);
            }
        }
        int best = NOBODY;
        int fewest = NOISES + 1;
        for (int set = 0; set < 1 << now.noises.count; set++) {
            if (Integer.bitCount(set) < fewest && fitsAllRows(set)) {
                fewest = Integer.bitCount(set);
                best = set;
            }
        }
        return best;
    }

    private boolean fitsAllRows(int set) {
        for (int row = 0; row < now.book.count; row++) {
            if (shareOf(row, set) != now.book.n[row]) return false;
        }
        return true;
    }

    private int shareOf(int row, int set) {
        int sum = 0;
        for (int i = 0; i < now.noises.count; i++) {
            if ((set >> i & 1) != 0) sum += shares[row * NOISES + i];
        }
        return sum;
    }

    private int worst() {
        int best = NOBODY;
        int most = -1;
        for (int i = 0; i < now.noises.count; i++) {
            int harms = harmOf(i);
            if (harms > most) {
                most = harms;
                best = i;
            }
        }
        return best;
    }

    private int harmOf(int i) {
        if (!now.noises.isLoose(i)) return 0;
        int sum = 0;
        for (int minute = 0; minute < MINUTES; minute++) sum += sounds.knocksOf(i, minute);
        return sum * now.noises.loudness[i];
    }

    private int mostAlike(int place, int minute) {
        for (int i = 0; i < now.noises.count; i++) shares[i] = heardAlone(i, place, minute);
        int most = 0;
        for (int i = 0; i < now.noises.count; i++) {
            int alike = 0;
            for (int j = i; j < now.noises.count; j++) {
                if (shares[i] == shares[j]) alike++;
            }
            most = Math.max(most, alike);
        }
        return most;
    }

    private int rowsHeard() {
        int rows = 0;
        for (int row = 0; row < now.book.count; row++) {
            if (heardAt(now.book.place[row], now.book.minute[row]) == now.book.n[row]) rows++;
        }
        return rows;
    }

    /** All that an image holds. */
    private static final class Home {
        final long[] day = new long[GOINGS_ON];
        final Tape tape = new Tape();
        final House house = new House();
        final Noises noises = new Noises();
        final Notebook book = new Notebook();
        int houses = 0;

        void copy(Home from) {
            System.arraycopy(from.day, 0, day, 0, GOINGS_ON);
            tape.copy(from.tape);
            house.copy(from.house);
            noises.copy(from.noises);
            book.copy(from.book);
            houses = from.houses;
        }
    }

    private static final class Tape {
        final int[] bytes = new int[BYTES];
        int size = 0;

        void add(int b) {
            if (size < 0 || size >= bytes.length) return;
            bytes[size] = b;
            size++;
        }

        void copy(Tape from) {
            System.arraycopy(from.bytes, 0, bytes, 0, BYTES);
            size = from.size;
        }
    }

    private static final class Noises {
        final int[] kind = new int[NOISES];
        final int[] place = new int[NOISES];
        final int[] v = new int[NOISES];
        final int[] loudness = new int[NOISES];
        int still = 0;
        int count = 0;

        boolean has(int i) {
            return i >= 0 && i < count;
        }

        boolean isLoose(int i) {
            return (still >> i & 1) == 0;
        }

        int loose() {
            return ((1 << count) - 1) & ~still;
        }

        int add(int newKind, int newPlace, int newV, int newLoudness) {
            if (count < 0 || count >= NOISES) return FULL;
            kind[count] = newKind;
            place[count] = newPlace;
            v[count] = newV;
            loudness[count] = newLoudness;
            return count++;
        }

        void copy(Noises from) {
            System.arraycopy(from.kind, 0, kind, 0, NOISES);
            System.arraycopy(from.place, 0, place, 0, NOISES);
            System.arraycopy(from.v, 0, v, 0, NOISES);
            System.arraycopy(from.loudness, 0, loudness, 0, NOISES);
            still = from.still;
            count = from.count;
        }
    }

    private static final class Notebook {
        final int[] place = new int[ROWS];
        final int[] minute = new int[ROWS];
        final int[] n = new int[ROWS];
        int count = 0;

        int add(int newPlace, int newMinute, int newN) {
            if (count < 0 || count >= ROWS) return FULL;
            place[count] = newPlace;
            minute[count] = newMinute;
            n[count] = newN;
            count++;
            return count;
        }

        void copy(Notebook from) {
            System.arraycopy(from.place, 0, place, 0, ROWS);
            System.arraycopy(from.minute, 0, minute, 0, ROWS);
            System.arraycopy(from.n, 0, n, 0, ROWS);
            count = from.count;
        }
    }

    /** What a tape said: its numbers, and its growing and holding clauses, each with its E as postfix codes. */
    private static final class House {
        static final int CLAUSES = 10;
        static final int NOT = -1, AND = -2, OR = -3;

        final int[] numbers = new int[NUMBERS];
        final int[] codes = new int[BYTES];
        final int[] amount = new int[CLAUSES];
        /** Behind the last code of each clause: the next one's codes start there. */
        final int[] end = new int[CLAUSES];
        /** Which clauses are growing ones, as bits; the others hold. */
        private int growing = 0;
        int clauses = 0;
        private int size = 0;

        House() {
            empty();
        }

        void empty() {
            System.arraycopy(WITHOUT, 0, numbers, 0, NUMBERS);
            growing = 0;
            clauses = 0;
            size = 0;
        }

        void put(int code) {
            if (size < 0 || size >= codes.length) return;
            codes[size] = code;
            size++;
        }

        boolean grows(int clause) {
            return (growing >> clause & 1) != 0;
        }

        /** The codes put since the last clause are a clause. */
        void close(boolean grows, int n) {
            if (clauses < 0 || clauses >= CLAUSES) return;
            if (grows) growing |= 1 << clauses;
            amount[clauses] = n;
            end[clauses] = size;
            clauses++;
        }

        void copy(House from) {
            System.arraycopy(from.numbers, 0, numbers, 0, NUMBERS);
            System.arraycopy(from.codes, 0, codes, 0, BYTES);
            System.arraycopy(from.amount, 0, amount, 0, CLAUSES);
            System.arraycopy(from.end, 0, end, 0, CLAUSES);
            growing = from.growing;
            clauses = from.clauses;
            size = from.size;
        }
    }

    /** A test of an E as one number, so that it can stand among the codes. */
    private static final class Test {
        static final String SUBJECTS = "npkvt", SIGNS = "<=>";

        static int code(int subject, int sign, int number) {
            return (subject * 3 + sign) * 100 + number;
        }

        static int subject(int code) {
            return code / 300;
        }

        private static int sign(int code) {
            return code / 100 % 3;
        }

        private static int number(int code) {
            return code % 100;
        }

        static boolean holds(int code, int value) {
            switch (sign(code)) {
                case 0: return value < number(code);
                case 1: return value == number(code);
                default: return value > number(code);
            }
        }

        /** The minutes for which a test of the minute holds. */
        static long minutes(int code) {
            int number = number(code);
            long below = number >= MINUTES ? WHOLE_DAY : (1L << number) - 1;
            long at = number >= MINUTES ? 0 : 1L << number;
            switch (sign(code)) {
                case 0: return below;
                case 1: return at;
                default: return WHOLE_DAY & ~below & ~at;
            }
        }
    }

    /** Reads a tape byte by byte, and stops at the first byte with which no house can go on. */
    private static final class Reader {
        /** Each with the blank behind it, and filled up to one width. */
        private static final String WORDS = "grow hold warm cool iron air  hear ";
        private static final int WIDTH = 5, WORD_COUNT = 7, GROW = 0, NUMBER_WORDS = 2;
        private static final int MOST_OPEN = 5, END = -1;

        final House draft = new House();
        private final Tape tape = new Tape();
        /** Where it reads, and where it stopped: the fault, if the tape is no house. */
        int at = 0;

        boolean reads(Tape from) {
            tape.copy(from);
            at = 0;
            draft.empty();
            for (int clause = 1; clause <= House.CLAUSES; clause++) {
                if (!clause()) return false;
                if (at >= tape.size) return true;
                if (clause == House.CLAUSES || !eats(';')) return false;
            }
            return false;
        }

        private int peek() {
            return at >= 0 && at < tape.size && at < tape.bytes.length ? tape.bytes[at] : END;
        }

        private boolean eats(char sign) {
            if (peek() != sign) return false;
            at++;
            return true;
        }

        private boolean clause() {
            int word = word();
            if (word < 0) return false;
            int n = number();
            if (n < 0) return false;
            int what = word - NUMBER_WORDS;
            if (what >= 0 && what < NUMBERS) {
                draft.numbers[what] = n;
                return true;
            }
            if (!eats(' ') || !either(0)) return false;
            draft.close(word == GROW, n);
            return true;
        }

        /** The number of the word that stands here, behind its blank then; -1 where no word can go on. */
        private int word() {
            int may = (1 << WORD_COUNT) - 1;
            for (int sign = 0; sign < WIDTH; sign++) {
                int last = -1;
                int left = 0;
                for (int word = 0; word < WORD_COUNT; word++) {
                    if ((may >> word & 1) == 0 || WORDS.charAt(word * WIDTH + sign) != peek()) continue;
                    left |= 1 << word;
                    last = word;
                }
                if (left == 0) return -1;
                if (eats(' ')) return last;
                at++;
                may = left;
            }
            return -1;
        }

        private int number() {
            int first = peek() - '0';
            if (first < 0 || first > 9) return -1;
            at++;
            int second = peek() - '0';
            // behind a 0 no digit can stand, so it is left for the caller to stumble over
            if (first == 0 || second < 0 || second > 9) return first;
            at++;
            return 10 * first + second;
        }

        /** E, with its T: a | waits till the & behind it are done; open is how many ! and ( stand open around it. */
        private boolean either(int open) {
            boolean and = false;
            boolean or = false;
            for (int factors = 0; factors < BYTES; factors++) {
                if (!factor(open)) return false;
                if (and) draft.put(House.AND);
                and = eats('&');
                if (and) continue;
                if (or) draft.put(House.OR);
                or = eats('|');
                if (!or) return true;
            }
            return false;
        }

        private boolean factor(int open) {
            int inner = open;
            boolean not = false;
            for (; inner < MOST_OPEN && eats('!'); inner++) not = !not;
            if (inner < MOST_OPEN && eats('(')) {
                if (!either(inner + 1) || !eats(')')) return false;
            } else if (!test()) {
                return false;
            }
            if (not) draft.put(House.NOT);
            return true;
        }

        private boolean test() {
            int subject = oneOf(Test.SUBJECTS);
            if (subject < 0) return false;
            int sign = oneOf(Test.SIGNS);
            if (sign < 0) return false;
            int number = number();
            if (number < 0) return false;
            draft.put(Test.code(subject, sign, number));
            return true;
        }

        private int oneOf(String signs) {
            int here = peek();
            for (int i = 0; i < signs.length(); i++) {
                if (signs.charAt(i) != here) continue;
                at++;
                return i;
            }
            return -1;
        }
    }

    /** A day worked out: how warm it is, and how each noise would knock, were it not still. */
    private static final class Sounds {
        private static final int MOST_TICKS = 9, LENGTH_BY = 10;
        /** Two left sides may wait in each of six open brackets, and one value stands on top. */
        private static final int STACK = 16;

        final int[] warmth = new int[MINUTES];
        private final int[] growth = new int[NOISES * MINUTES];
        private final int[] hold = new int[NOISES * MINUTES];
        private final int[] knocks = new int[NOISES * MINUTES];
        /** The minutes in which no clause holds for a noise. */
        private final long[] bare = new long[NOISES];
        private final long[] stack = new long[STACK];

        int lengthOf(int i, int minute) {
            return warmth[minute] * growth[i * MINUTES + minute] / LENGTH_BY;
        }

        int holdOf(int i, int minute) {
            return Math.max(1, hold[i * MINUTES + minute]);
        }

        int knocksOf(int i, int minute) {
            return knocks[i * MINUTES + minute];
        }

        long knockingOf(int i) {
            long minutes = 0;
            for (int minute = 0; minute < MINUTES; minute++) {
                if (knocksOf(i, minute) > 0) minutes |= 1L << minute;
            }
            return minutes;
        }

        /** What the house's clauses say of a noise, minute by minute. */
        void read(House house, Noises noises, int i) {
            for (int minute = 0; minute < MINUTES; minute++) {
                growth[i * MINUTES + minute] = 0;
                hold[i * MINUTES + minute] = 0;
            }
            bare[i] = WHOLE_DAY;
            int start = 0;
            for (int clause = 0; clause < house.clauses; clause++) {
                long when = holds(house, start, house.end[clause], noises, i);
                bare[i] &= ~when;
                addTo(house.grows(clause) ? growth : hold, i, when, house.amount[clause]);
                start = house.end[clause];
            }
        }

        private static void addTo(int[] sums, int i, long when, int n) {
            for (int minute = 0; minute < MINUTES; minute++) {
                if ((when >> minute & 1) != 0) sums[i * MINUTES + minute] += n;
            }
        }

        /** The minutes in which an E holds for a noise: all forty are judged at once, as bits. */
        private long holds(House house, int start, int end, Noises noises, int i) {
            int top = 0;
            for (int c = start; c < end && c < BYTES; c++) {
                int code = house.codes[c];
                if (code >= 0) {
                    if (top >= STACK) return 0;
                    stack[top] = minutesOf(code, noises, i);
                    top++;
                } else if (code == House.NOT) {
                    if (top < 1) return 0;
                    stack[top - 1] ^= WHOLE_DAY;
                } else {
                    if (top < 2) return 0;
                    top--;
                    if (code == House.AND) stack[top - 1] &= stack[top];
                    else stack[top - 1] |= stack[top];
                }
            }
            return top == 1 ? stack[0] : 0;
        }

        private static long minutesOf(int code, Noises noises, int i) {
            int value;
            switch (Test.subject(code)) {
                case 0: value = i; break;
                case 1: value = noises.place[i]; break;
                case 2: value = noises.kind[i]; break;
                case 3: value = noises.v[i]; break;
                default: return Test.minutes(code);
            }
            return Test.holds(code, value) ? WHOLE_DAY : 0;
        }

        void warm(House house, long boiler) {
            int last = 0;
            for (int minute = 0; minute < MINUTES; minute++) {
                boolean on = (boiler >> minute & 1) != 0;
                int then = on ? last + house.numbers[WARM] : last - house.numbers[COOL];
                last = Math.max(0, Math.min(MOST_WARMTH, then));
                warmth[minute] = last;
            }
        }

        /** How a noise knocks; the warmth, and what the clauses say of it, are worked out already. */
        void knock(Noises noises, int i, long tap, long pump) {
            int v = noises.v[i];
            long wentOff = tap << 1 & ~tap & WHOLE_DAY;
            long wentOn = tap & ~(tap << 1);
            switch (noises.kind[i]) {
                case TICKING: tick(i, false); break;
                case STEAMED: tick(i, true); break;
                case STRUCK: mark(i, wentOff, v, 0); break;
                case GURGLING: mark(i, wentOff, v, wentOn); break;
                case HUMMING: mark(i, 0, 0, lasting(pump, v)); break;
                case NEXT_DOOR: mark(i, 0, 0, lasting(~pump & WHOLE_DAY, v)); break;
                default: mark(i, 0, 0, bare[i] & EVERY_TENTH << v); break;
            }
        }

        private void mark(int i, long often, int times, long once) {
            for (int minute = 0; minute < MINUTES; minute++) {
                int all = 0;
                if ((often >> minute & 1) != 0) all += times;
                if ((once >> minute & 1) != 0) all++;
                knocks[i * MINUTES + minute] = all;
            }
        }

        /** The minutes that end a run of v minutes or more. */
        private static long lasting(long minutes, int v) {
            long last = minutes;
            for (int back = 1; back < v && back < MINUTES; back++) last &= minutes << back;
            return last;
        }

        private void tick(int i, boolean onlyWarming) {
            int stuck = 0;
            int before = 0;
            for (int minute = 0; minute < MINUTES; minute++) {
                int length = lengthOf(i, minute);
                int ticks = Math.min(MOST_TICKS, Math.abs(length - stuck) / holdOf(i, minute));
                if (ticks >= 1) stuck = length;
                knocks[i * MINUTES + minute] = onlyWarming && warmth[minute] <= before ? 0 : ticks;
                before = warmth[minute];
            }
        }
    }

    /** The bodies of the acts, and which of them ran. */
    private static final class Acts {
        private static final int KEPT = 20, DEEPEST = 20;

        final int[] trace = new int[KEPT];
        int ran = 0;
        private int kind = 0;
        private int number = 0;
        private int v = 0;

        int start(Noises noises, int noise, int act, int x) {
            ran = 0;
            kind = noises.kind[noise];
            number = noise;
            v = noises.v[noise];
            return send(kind, act, x, 0);
        }

        /** Runs the body of a kind, or of the next above that has one. */
        private int send(int from, int act, int x, int depth) {
            if (depth > DEEPEST) return 0;
            int at = from;
            for (int step = 0; step < KINDS && isKind(at); step++) {
                int body = bodyOf(at, act);
                if (body != 0) return run(body, above(at), x, depth + 1);
                at = above(at);
            }
            return 0;
        }

        /** 0 where a kind has no body of its own. */
        private static int bodyOf(int kind, int act) {
            switch (kind) {
                case NOISE: return act + 1;
                case TICKING: return act == GROWS ? 11 : 0;
                case STRUCK: return act == STRIKES ? 21 : 0;
                case HUMMING: return act == TELLS ? 31 : 0;
                case STEAMED: return act == TELLS ? 41 : 0;
                case GURGLING: return act == GROWS ? 51 : 0;
                case NEXT_DOOR: return act == STRIKES ? 61 : 0;
                default: return 0;
            }
        }

        private int run(int body, int above, int x, int depth) {
            if (ran >= 0 && ran < trace.length) trace[ran] = body;
            ran++;
            switch (body) {
                case 1: return x + number;
                case 2: return send(kind, GROWS, x, depth) - v;
                case 3: return send(kind, STRIKES, x, depth) * 2;
                case 11: return send(above, GROWS, x * 3, depth);
                case 21: return -send(above, STRIKES, x, depth);
                case 31: return send(above, TELLS, x, depth) ^ 7;
                case 41: return send(above, TELLS, x - 1, depth) + send(kind, GROWS, 2, depth);
                case 51: return send(above, GROWS, x, depth) ^ number;
                case 61: return send(above, STRIKES, x, depth) + v;
                default: return 0;
            }
        }
    }
}
