import java.util.ArrayList;
import java.util.HashMap;
import java.util.HashSet;
import java.util.List;
import java.util.Map;
import java.util.Random;
import java.util.Set;
import java.util.TreeMap;

/** Random runs of calls, each answered by the class and by a slow model that says the document over again. */
public final class KnockPipesModel {
    static final int RUNS = 400, CALLS = 512;
    static final Map<String, Map<String, Integer>> seen = new TreeMap<>();
    static int wrong = 0;

    public static void main(String[] args) {
        int runs = args.length > 0 ? Integer.parseInt(args[0]) : RUNS;
        long first = args.length > 1 ? Long.parseLong(args[1]) : 0;
        for (long seed = first; seed < first + runs && wrong < 5; seed++) new Run(seed).go();
        if (args.length > 2) seen.forEach((call, answers) -> System.out.println(call + " " + answers));
        System.out.println(wrong == 0 ? runs + " random runs are as the model" : wrong + " runs are not as the model");
        if (wrong != 0) System.exit(1);
    }

    // ---- the model

    record Noise(int kind, int place, int v, int loudness, boolean still) {
        Noise still(boolean is) { return new Noise(kind, place, v, loudness, is); }
        Noise at(int other) { return new Noise(kind, other, v, loudness, still); }
        Noise as(int loud) { return new Noise(kind, place, v, loud, still); }
    }

    record Row(int place, int minute, int n) { }

    record Clause(String word, int n, String e, Map<Integer, Boolean> known) {
        static List<Clause> of(String house) {
            List<Clause> all = new ArrayList<>();
            for (String clause : house.isEmpty() ? new String[0] : house.split(";")) {
                String[] parts = clause.split(" ");
                String e = parts.length > 2 ? parts[2] : "";
                all.add(new Clause(parts[0], Integer.parseInt(parts[1]), e, new HashMap<>()));
            }
            return all;
        }
    }

    /** What was worked out once already; the answers do not hang on it. */
    static final Map<String, List<Clause>> READ = new HashMap<>();
    static final Map<List<Object>, int[]> WARMTH = new HashMap<>();

    static final class State {
        final boolean[][] day = new boolean[3][40];
        String tape = "";
        String house = "";
        int houses = 0;
        List<Noise> noises = new ArrayList<>();
        List<Row> rows = new ArrayList<>();

        State copy() {
            State other = new State();
            for (int what = 0; what < 3; what++) other.day[what] = day[what].clone();
            other.tape = tape;
            other.house = house;
            other.houses = houses;
            other.noises = new ArrayList<>(noises);
            other.rows = new ArrayList<>(rows);
            return other;
        }

        State alone(int i) {
            State other = copy();
            for (int j = 0; j < noises.size(); j++) other.noises.set(j, noises.get(j).still(j != i));
            return other;
        }

        State with(int set) {
            State other = copy();
            for (int j = 0; j < noises.size(); j++) other.noises.set(j, noises.get(j).still((set >> j & 1) == 0));
            return other;
        }

        List<Clause> clauses() { return READ.computeIfAbsent(house, Clause::of); }

        int told(String word, int without) {
            int last = without;
            for (Clause clause : clauses()) if (clause.word.equals(word)) last = clause.n;
            return last;
        }

        int warmth(int minute) {
            if (minute < 0) return 0;
            long boiler = 0;
            for (boolean on : day[0]) boiler = boiler << 1 | (on ? 1 : 0);
            return WARMTH.computeIfAbsent(List.of(house, boiler), k -> warmth())[minute];
        }

        int[] warmth() {
            int[] all = new int[40];
            int w = 0;
            for (int minute = 0; minute < 40; minute++) {
                w = day[0][minute] ? w + told("warm", 3) : w - told("cool", 1);
                w = w < 0 ? 0 : w > 99 ? 99 : w;
                all[minute] = w;
            }
            return all;
        }

        boolean holds(Clause clause, int i, int minute) {
            Noise a = noises.get(i);
            int key = (((i * 10 + a.place) * 7 + a.kind) * 10 + a.v) * 40 + minute;
            return clause.known.computeIfAbsent(key, k -> truth(clause.e, i, a, minute));
        }

        static List<String> split(String e, char by) {
            List<String> parts = new ArrayList<>();
            int open = 0, from = 0;
            for (int at = 0; at < e.length(); at++) {
                if (e.charAt(at) == '(') open++;
                if (e.charAt(at) == ')') open--;
                if (e.charAt(at) == by && open == 0) {
                    parts.add(e.substring(from, at));
                    from = at + 1;
                }
            }
            parts.add(e.substring(from));
            return parts;
        }

        static boolean truth(String e, int i, Noise a, int minute) {
            List<String> ors = split(e, '|');
            if (ors.size() > 1) return ors.stream().anyMatch(part -> truth(part, i, a, minute));
            List<String> ands = split(e, '&');
            if (ands.size() > 1) return ands.stream().allMatch(part -> truth(part, i, a, minute));
            if (e.startsWith("!")) return !truth(e.substring(1), i, a, minute);
            if (e.startsWith("(")) return truth(e.substring(1, e.length() - 1), i, a, minute);
            int left = switch (e.charAt(0)) {
                case 'n' -> i;
                case 'p' -> a.place;
                case 'k' -> a.kind;
                case 'v' -> a.v;
                default -> minute;
            };
            int right = Integer.parseInt(e.substring(2));
            return switch (e.charAt(1)) {
                case '<' -> left < right;
                case '=' -> left == right;
                default -> left > right;
            };
        }

        /** The n of all clauses of this word that hold, and whether there is one. */
        int[] told(String word, int i, int minute) {
            int sum = 0, any = 0;
            for (Clause clause : clauses()) {
                if (!clause.word.equals(word) || !holds(clause, i, minute)) continue;
                sum += clause.n;
                any = 1;
            }
            return new int[] {sum, any};
        }

        int length(int i, int minute) { return warmth(minute) * told("grow", i, minute)[0] / 10; }

        int hold(int i, int minute) { return Math.max(1, told("hold", i, minute)[0]); }

        boolean was(int what, int minute) { return minute >= 0 && day[what][minute]; }

        int[] knocks(int i) {
            int[] all = new int[40];
            Noise a = noises.get(i);
            int sticks = 0;
            for (int m = 0; m < 40; m++) {
                int ticks = Math.min(9, Math.abs(length(i, m) - sticks) / hold(i, m));
                if (ticks > 0) sticks = length(i, m);
                int run = 0;
                boolean pump = a.kind == 3;
                for (int back = m; back >= 0 && day[2][back] == pump; back--) run++;
                boolean off = !was(1, m) && was(1, m - 1), on = was(1, m) && !was(1, m - 1);
                boolean none = told("grow", i, m)[1] + told("hold", i, m)[1] == 0;
                all[m] = switch (a.kind) {
                    case 0 -> none && m % 10 == a.v ? 1 : 0;
                    case 1 -> ticks;
                    case 2 -> off ? a.v : 0;
                    case 3, 6 -> run >= 1 && run >= a.v ? 1 : 0;
                    case 4 -> warmth(m) > warmth(m - 1) ? ticks : 0;
                    default -> off ? a.v : on ? 1 : 0;
                };
                if (a.still) all[m] = 0;
            }
            return all;
        }

        int[][] knocks() {
            int[][] all = new int[noises.size()][];
            for (int i = 0; i < all.length; i++) all[i] = knocks(i);
            return all;
        }

        int loud(int i, int place, int minute) {
            Noise a = noises.get(i);
            int off = Math.abs(a.place - place);
            int loud = a.loudness - told("air", 4) * off;
            if (warmth(minute) > 0 || a.kind == 2 || a.kind == 5) {
                loud = Math.max(loud, a.loudness - 5 - told("iron", 1) * off);
            }
            return Math.max(0, loud);
        }

        int heard(int[][] knocks, int place, int minute) {
            int sum = 0;
            for (int i = 0; i < noises.size(); i++) {
                if (knocks[i][minute] > 0 && loud(i, place, minute) >= told("hear", 1)) sum += knocks[i][minute];
            }
            return sum;
        }

        int heard(int place, int minute) { return heard(knocks(), place, minute); }

        int heard(int place) {
            int[][] knocks = knocks();
            int sum = 0;
            for (int m = 0; m < 40; m++) sum += heard(knocks, place, m);
            return sum;
        }

        int rowsHeard() {
            int[][] knocks = knocks();
            int bits = 0;
            for (int r = 0; r < rows.size(); r++) {
                if (heard(knocks, rows.get(r).place, rows.get(r).minute) == rows.get(r).n) bits |= 1 << r;
            }
            return bits;
        }
    }

    static final class Model {
        State s = new State();
        State image = null;
        List<Integer> trace = new ArrayList<>();

        static boolean in(int x, int least, int most) { return x >= least && x <= most; }

        boolean noise(int i) { return in(i, 0, s.noises.size() - 1); }

        long day(int what, long bits) {
            if (!in(what, 0, 2)) return -1;
            if ((bits & ~0xFFFFFFFFFFL) != 0) return -2;
            int was = 0;
            for (int m = 0; m < 40; m++) {
                if (s.day[what][m]) was++;
                s.day[what][m] = (bits >> m & 1) == 1;
            }
            return was;
        }

        long feed(long w, int n) {
            if (!in(n, 1, 8)) return -2;
            if (s.tape.length() + n > 120) return -4;
            String hex = String.format("%016x", w);
            for (int i = 8 - n; i < 8; i++) s.tape += (char) Integer.parseInt(hex.substring(2 * i, 2 * i + 2), 16);
            return s.tape.length();
        }

        long house() {
            if (s.houses == 5) return -4;
            String text = s.tape;
            s.tape = "";
            int fault = Grammar.fault(text);
            if (fault >= 0) return -10 - fault;
            s.house = text;
            return s.houses++;
        }

        long told(int what) {
            return switch (what) {
                case 0 -> s.told("warm", 3);
                case 1 -> s.told("cool", 1);
                case 2 -> s.told("iron", 1);
                case 3 -> s.told("air", 4);
                case 4 -> s.told("hear", 1);
                default -> -1;
            };
        }

        long warmth(int m) { return in(m, 0, 39) ? s.warmth(m) : -1; }

        long add(int kind, int place, int v, int loudness) {
            if (!in(kind, 0, 6) || !in(place, 0, 9)) return -1;
            if (!in(v, 0, 9) || !in(loudness, 1, 40)) return -2;
            if (s.noises.size() == 10) return -4;
            s.noises.add(new Noise(kind, place, v, loudness, false));
            return s.noises.size() - 1;
        }

        long of(int i, int what) {
            if (!noise(i) || !in(what, 0, 4)) return -1;
            Noise a = s.noises.get(i);
            return new int[] {a.kind, a.place, a.v, a.loudness, a.still ? 1 : 0}[what];
        }

        long still(int i, boolean is) {
            if (!noise(i)) return -1;
            boolean was = s.noises.get(i).still;
            s.noises.set(i, s.noises.get(i).still(is));
            return was ? 1 : 0;
        }

        long knocks(int i, int m, int what) {
            if (!noise(i) || !in(m, 0, 39) || !in(what, 0, 2)) return -1;
            return what == 0 ? s.length(i, m) : what == 1 ? s.hold(i, m) : s.knocks(i)[m];
        }

        long loud(int i, int place, int m) {
            return noise(i) && in(place, 0, 9) && in(m, 0, 39) ? s.loud(i, place, m) : -1;
        }

        long heard(int place, int m) {
            if (!in(place, 0, 9) || !in(m, -1, 39)) return -1;
            return m < 0 ? s.heard(place) : s.heard(place, m);
        }

        long seems(int m) {
            if (!in(m, 0, 39)) return -1;
            int[][] knocks = s.knocks();
            int[] all = new int[10];
            boolean any = false;
            for (int i = 0; i < knocks.length; i++) {
                if (knocks[i][m] == 0) continue;
                any = true;
                for (int p = 0; p < 10; p++) all[p] += s.loud(i, p, m);
            }
            int best = 0;
            for (int p = 9; p >= 0; p--) if (all[p] >= all[best]) best = p;
            return any ? best : -5;
        }

        long note(int place, int m, int n) {
            if (!in(place, 0, 9) || !in(m, 0, 39)) return -1;
            if (!in(n, 0, 99)) return -2;
            if (s.rows.size() == 12) return -4;
            s.rows.add(new Row(place, m, n));
            return s.rows.size();
        }

        long clear() {
            int had = s.rows.size();
            s.rows.clear();
            return had;
        }

        long fits(int i) { return noise(i) ? s.alone(i).rowsHeard() : -1; }

        long odds(int i, int part) {
            if (!noise(i) || !in(part, 0, 1)) return -1;
            int own = Long.bitCount(fits(i)), all = 0;
            for (int j = 0; j < s.noises.size(); j++) all += Long.bitCount(fits(j));
            if (all == 0) return part;
            for (int by = all; by > 1; by--) {
                if (own % by == 0 && all % by == 0) {
                    own /= by;
                    all /= by;
                }
            }
            return part == 0 ? own : all;
        }

        long which(int what) {
            int best = -5;
            if (what == 0) {
                for (int i = 0; i < s.noises.size(); i++) {
                    if (best < 0 || Long.bitCount(fits(i)) > Long.bitCount(fits(best))) best = i;
                }
                return best;
            }
            if (what == 1) return allFit();
            if (what != 2) return -1;
            for (int i = 0; i < s.noises.size(); i++) if (best < 0 || harm(i) > harm(best)) best = i;
            return best;
        }

        long allFit() {
            int[][] knocks = s.with(-1).knocks();
            for (int size = 0; size <= s.noises.size(); size++) {
                for (int set = 0; set < 1 << s.noises.size(); set++) {
                    if (Integer.bitCount(set) != size) continue;
                    boolean all = true;
                    for (Row row : s.rows) {
                        int sum = 0;
                        for (int i = 0; i < s.noises.size(); i++) {
                            boolean in = (set >> i & 1) == 1 && s.loud(i, row.place, row.minute) >= s.told("hear", 1);
                            if (in) sum += knocks[i][row.minute];
                        }
                        all &= sum == row.n;
                    }
                    if (all) return set;
                }
            }
            return -5;
        }

        long next() {
            int best = -5, fewest = 99;
            int[][] knocks = s.with(-1).knocks();
            for (int p = 0; p < 10; p++) {
                for (int m = 0; m < 40; m++) {
                    Map<Integer, Integer> alike = new HashMap<>();
                    for (int i = 0; i < s.noises.size(); i++) {
                        int heard = s.loud(i, p, m) >= s.told("hear", 1) ? knocks[i][m] : 0;
                        alike.merge(heard, 1, Integer::sum);
                    }
                    int most = alike.values().stream().max(Integer::compare).orElse(99);
                    if (most < fewest) {
                        fewest = most;
                        best = 100 * p + m;
                    }
                }
            }
            return best;
        }

        long least(int place, int n) {
            if (!in(place, 0, 9)) return -1;
            if (!in(n, 0, 99)) return -2;
            int size = s.noises.size();
            int[] day = new int[size];
            for (int i = 0; i < size; i++) day[i] = s.noises.get(i).still ? 0 : s.alone(i).heard(place);
            for (int few = 0; few <= size; few++) {
                for (int set = 0; set < 1 << size; set++) {
                    if (Integer.bitCount(set) != few) continue;
                    boolean may = true;
                    int left = 0;
                    for (int i = 0; i < size; i++) {
                        if ((set >> i & 1) == 1) may &= !s.noises.get(i).still;
                        else left += day[i];
                    }
                    if (may && left <= n) return set;
                }
            }
            throw new IllegalStateException();
        }

        long eased(int place, int c) {
            if (!in(place, 0, 9)) return -1;
            if (!in(c, 0, 40)) return -2;
            State other = s.copy();
            for (int i = 0; i < s.noises.size(); i++) {
                Noise a = s.noises.get(i);
                if (a.kind == 2 || a.kind == 5) other.noises.set(i, a.as(a.loudness - c < 1 ? 1 : a.loudness - c));
            }
            return s.heard(place) - other.heard(place);
        }

        long parted(int a, int b) {
            if (!noise(a) || !noise(b) || a == b) return Long.MIN_VALUE;
            int[] as = s.alone(a).knocks(a), bs = s.alone(b).knocks(b);
            long bits = 0;
            for (int m = 0; m < 40; m++) if ((as[m] > 0) != (bs[m] > 0)) bits |= 1L << m;
            return bits;
        }

        long quiet(int what) {
            if (!in(what, 0, 1)) return -1;
            State other = s.copy();
            for (boolean[] row : other.day) java.util.Arrays.fill(row, false);
            int bits = 0;
            int[][] knocks = other.knocks();
            for (int i = 0; i < knocks.length; i++) for (int k : knocks[i]) if (k > 0) bits |= 1 << i;
            return what == 1 ? bits : bits == 0 ? 1 : 0;
        }

        long moved(int i, int place) {
            if (!noise(i) || !in(place, 0, 9)) return -1;
            int best = -1, fewest = 0;
            for (int p = 0; p < 10; p++) {
                State other = s.copy();
                other.noises.set(i, s.noises.get(i).at(p));
                int heard = other.heard(place);
                if (best < 0 || heard < fewest) {
                    fewest = heard;
                    best = p;
                }
            }
            return best;
        }

        long older() {
            int now = Integer.bitCount(s.rowsHeard());
            int best = 0;
            for (int n = 0; n <= 40; n++) {
                State other = s.copy();
                for (int m = 0; m < 40; m++) other.day[0][m] = s.was(0, m - n);
                if (Integer.bitCount(other.rowsHeard()) >= now) best = n;
            }
            return best;
        }

        long harm(int i) {
            if (!noise(i)) return -1;
            int sum = 0;
            for (int k : s.knocks(i)) sum += k;
            return sum * s.noises.get(i).loudness;
        }

        long act(int i, int act, int x) {
            trace = new ArrayList<>();
            if (!noise(i) || !in(act, 0, 2)) return 0;
            Noise a = s.noises.get(i);
            Body body = switch (a.kind) {
                case 0 -> new Body();
                case 1 -> new Ticking();
                case 2 -> new Struck();
                case 3 -> new Humming();
                case 4 -> new Steamed();
                case 5 -> new Gurgling();
                default -> new NextDoor();
            };
            body.i = i;
            body.v = a.v;
            body.trace = trace;
            return act == 0 ? body.grows(x) : act == 1 ? body.strikes(x) : body.tells(x);
        }

        long trace(int i) { return in(i, 0, Math.min(trace.size(), 20) - 1) ? trace.get(i) : -1; }

        long as(int i, int k) {
            if (!noise(i) || !in(k, 0, 6)) return -1;
            int kind = s.noises.get(i).kind;
            boolean is = k == 0 || kind == k || kind == k + 3;
            return is ? s.noises.get(i).v : -6;
        }

        long image() {
            image = s.copy();
            return s.noises.size();
        }

        long undo() {
            if (image == null) return -3;
            s = image.copy();
            return s.noises.size();
        }

        long count(int what) {
            return switch (what) {
                case 0 -> s.noises.size();
                case 1 -> s.houses;
                case 2 -> s.rows.size();
                case 3 -> s.tape.length();
                case 4 -> trace.size();
                default -> -1;
            };
        }
    }

    // the acts, as Java itself sends them
    static class Body {
        int i, v;
        List<Integer> trace;
        int grows(int x) { trace.add(1); return x + i; }
        int strikes(int x) { trace.add(2); return grows(x) - v; }
        int tells(int x) { trace.add(3); return strikes(x) * 2; }
    }
    static class Ticking extends Body { int grows(int x) { trace.add(11); return super.grows(x * 3); } }
    static class Struck extends Body { int strikes(int x) { trace.add(21); return -super.strikes(x); } }
    static class Humming extends Body { int tells(int x) { trace.add(31); return super.tells(x) ^ 7; } }
    static class Steamed extends Ticking { int tells(int x) { trace.add(41); return super.tells(x - 1) + grows(2); } }
    static class Gurgling extends Struck { int grows(int x) { trace.add(51); return super.grows(x) ^ i; } }
    static class NextDoor extends Humming { int strikes(int x) { trace.add(61); return super.strikes(x) + v; } }

    /** The grammar as the document writes it: all stacks of what may still come, followed byte by byte. */
    static final class Grammar {
        static final int CLAUSES = 1000, CLAUSE = 1100, E = 1200, T = 1300, F = 1400, NUMBER = 1500, DIGIT = 1600,
            LETTER = 1700, SIGN = 1800, LEADING = 1900;

        static int fault(String text) {
            Set<String> stacks = new HashSet<>();
            stacks.add("" + (char) (CLAUSES + 10));
            for (int at = 0; at < text.length(); at++) {
                Set<String> after = new HashSet<>();
                Set<String> done = new HashSet<>();
                for (String stack : stacks) follow(stack, text.charAt(at), after, done);
                if (after.isEmpty()) return at;
                stacks = after;
            }
            return stacks.contains("") ? -1 : text.length();
        }

        static void follow(String stack, char sign, Set<String> after, Set<String> done) {
            if (stack.isEmpty() || !done.add(stack)) return;
            int head = stack.charAt(0);
            String rest = stack.substring(1);
            if (head < 1000) {
                if (head == sign) after.add(rest);
                return;
            }
            for (String way : ways(head / 100 * 100, head % 100)) follow(way + rest, sign, after, done);
        }

        static String of(int... symbols) {
            StringBuilder text = new StringBuilder();
            for (int symbol : symbols) text.append((char) symbol);
            return text.toString();
        }

        static List<String> ways(int head, int x) {
            List<String> ways = new ArrayList<>();
            switch (head) {
                case CLAUSES -> {
                    ways.add(of(CLAUSE));
                    if (x > 1) ways.add(of(CLAUSE, ';', CLAUSES + x - 1));
                }
                case CLAUSE -> {
                    for (String w : List.of("grow ", "hold ")) ways.add(w + of(NUMBER, ' ', E));
                    for (String w : List.of("warm ", "cool ", "iron ", "air ", "hear ")) ways.add(w + of(NUMBER));
                }
                case E -> {
                    ways.add(of(T + x));
                    ways.add(of(T + x, '|', E + x));
                }
                case T -> {
                    ways.add(of(F + x));
                    ways.add(of(F + x, '&', T + x));
                }
                case F -> {
                    ways.add(of(LETTER, SIGN, NUMBER));
                    if (x < 5) ways.add(of('!', F + x + 1));
                    if (x < 5) ways.add(of('(', E + x + 1, ')'));
                }
                case NUMBER -> {
                    ways.add(of(DIGIT));
                    ways.add(of(LEADING, DIGIT));
                }
                default -> {
                    String signs = head == DIGIT ? "0123456789" : head == LEADING ? "123456789"
                        : head == LETTER ? "npkvt" : "<=>";
                    for (char c : signs.toCharArray()) ways.add("" + c);
                }
            }
            return ways;
        }
    }

    // ---- the runs

    static final class Run {
        final Random random;
        final long seed;
        final KnockPipes x = new KnockPipes();
        final Model m = new Model();
        final StringBuilder told = new StringBuilder();
        final int set;
        boolean ended = false;
        int calls = 0;

        Run(long seed) {
            this.seed = seed;
            random = new Random(seed * 7919 + 17);
            set = random.nextInt();
        }

        int any(int most) { return random.nextInt(most); }

        void same(String call, long got, long due) {
            told.append(call).append(" = ").append(got).append('\n');
            calls++;
            String name = call.substring(0, call.indexOf('('));
            String answer = due < 0 && due >= -10 ? "" + due : due < -10 && due > -200 ? "fault" : due == 0 ? "0"
                : name.equals("older") && due == 40 ? "40" : "other";
            seen.computeIfAbsent(name, k -> new TreeMap<>()).merge(answer, 1, Integer::sum);
            if (got == due || ended) return;
            System.out.println("seed " + seed + ":\n" + told + call + " answered " + got + ", the model says " + due);
            wrong++;
            ended = true;
        }

        void go() {
            READ.clear();
            WARMTH.clear();
            // a start that makes something to hear likely, then whatever comes
            if (any(4) > 0) for (int what = 0; what < 3; what++) day(what);
            if (any(4) > 0) text(house(2));
            for (int i = any(11); i > 0; i--) noise();
            while (calls < CALLS && !ended) one();
        }

        int noiseNumber() {
            int count = m.s.noises.size();
            return any(12) == 0 ? any(14) - 2 : count == 0 ? 0 : any(count);
        }

        int within(int size) { return any(15) == 0 ? (any(2) == 0 ? -1 - any(3) : size + any(3)) : any(size); }

        void day(int what) {
            long bits = random.nextLong() & 0xFFFFFFFFFFL;
            int how = any(6);
            if (how < 3) bits = runs();
            if (how == 3) bits &= random.nextLong() & random.nextLong();
            if (any(20) == 0) bits |= random.nextLong();
            if (any(30) == 0) bits = any(2) == 0 ? 1L << 40 : 0xFFFFFFFFFFL;
            same("day(" + what + ", " + bits + ")", x.day(what, bits), m.day(what, bits));
        }

        long runs() {
            long bits = 0;
            boolean on = any(2) == 0;
            for (int at = 0, left = 0; at < 40; at++, left--) {
                if (left <= 0) {
                    on = !on;
                    left = 1 + any(14);
                }
                if (on) bits |= 1L << at;
            }
            return bits;
        }

        void noise() {
            int k = within(7), p = within(10), v = within(10), l = 1 + within(40);
            same("noise(" + k + ", " + p + ", " + v + ", " + l + ")", x.noise(k, p, v, l), m.add(k, p, v, l));
        }

        void text(String text) {
            for (int at = 0; at < text.length() && calls < CALLS; ) {
                int n = Math.min(text.length() - at, any(10) == 0 ? 1 + any(8) : 8);
                long w = random.nextLong();
                for (int i = 0; i < n; i++) w = w << 8 | text.charAt(at + i) & 255;
                same("feed(" + w + ", " + n + ")", x.feed(w, n), m.feed(w, n));
                at += n;
            }
            if (any(10) > 0) same("house() of " + text, x.house(), m.house());
        }

        String number() {
            int most = any(3) == 0 ? 100 : any(2) == 0 ? 40 : 10;
            return "" + any(most);
        }

        String e(int open) {
            String text = t(open);
            return any(4) == 0 ? text + "|" + e(open) : text;
        }

        String t(int open) {
            String text = f(open);
            return any(4) == 0 ? text + "&" + t(open) : text;
        }

        String f(int open) {
            if (open < 6 && any(6) == 0) return "!" + f(open + 1);
            if (open < 6 && any(6) == 0) return "(" + e(open + 1) + ")";
            String letter = "" + "npkvt".charAt(any(5));
            String few = letter.equals("t") ? number() : "" + any(letter.equals("k") ? 7 : 10);
            return letter + "<=>".charAt(any(3)) + few;
        }

        String house(int least) {
            StringBuilder text = new StringBuilder();
            for (int left = least + any(9); left > 0; left--) {
                if (text.length() > 0) text.append(';');
                int how = any(9);
                if (how < 3) text.append("grow ").append(number()).append(' ').append(e(0));
                else if (how < 4) text.append("hold ").append(any(12)).append(' ').append(e(0));
                else {
                    String word = List.of("warm", "cool", "iron", "air", "hear").get(how - 4);
                    int most = how < 6 ? 20 : how == 8 ? 16 : 8;
                    text.append(word).append(' ').append(any(12) == 0 ? any(100) : any(most));
                }
            }
            return text.length() > 120 && any(4) > 0 ? house(1) : text.toString();
        }

        String spoiled(String text) {
            StringBuilder other = new StringBuilder(text);
            String signs = "growhldamcine!()&|<=>npkvt;; 0123456789";
            for (int times = any(3); times >= 0; times--) {
                int at = any(other.length() + 1);
                char sign = any(12) == 0 ? (char) any(256) : signs.charAt(any(signs.length()));
                switch (any(4)) {
                    case 0 -> other.setLength(at);
                    case 1 -> other.insert(at, sign);
                    case 2 -> { if (at < other.length()) other.deleteCharAt(at); }
                    default -> { if (at < other.length()) other.setCharAt(at, sign); }
                }
            }
            return other.toString();
        }

        void one() {
            int p = within(10), t = within(40), i = noiseNumber(), j = noiseNumber(), two = within(2);
            switch (any(47)) {
                case 0, 1, 2 -> day(within(3));
                case 3 -> text(house(1));
                case 4 -> text(any(20) == 0 ? "" : spoiled(house(1)));
                case 5 -> {
                    int n = any(3) == 0 ? 1 + any(8) : any(2) == 0 ? -any(4) : 9 + any(4);
                    long w = random.nextLong();
                    same("feed(" + w + ", " + n + ")", x.feed(w, n), m.feed(w, n));
                    if (any(4) == 0) same("house()", x.house(), m.house());
                }
                case 6 -> { int w = within(5); same("told(" + w + ")", x.told(w), m.told(w)); }
                case 7 -> same("warmth(" + t + ")", x.warmth(t), m.warmth(t));
                case 8 -> { if (any(3) == 0) noise(); }
                case 9 -> { int w = within(5); same("of(" + i + ", " + w + ")", x.of(i, w), m.of(i, w)); }
                case 10, 11 -> {
                    boolean is = any(3) == 0;
                    same("still(" + i + ", " + is + ")", x.still(i, is), m.still(i, is));
                }
                case 12, 13, 14 -> {
                    int w = within(3);
                    same("knocks(" + i + ", " + t + ", " + w + ")", x.knocks(i, t, w), m.knocks(i, t, w));
                }
                case 15, 16 -> same("loud(" + i + ", " + p + ", " + t + ")", x.loud(i, p, t), m.loud(i, p, t));
                case 17, 18 -> {
                    int when = any(2) == 0 ? -1 : t;
                    same("heard(" + p + ", " + when + ")", x.heard(p, when), m.heard(p, when));
                }
                case 19, 20 -> same("seems(" + t + ")", x.seems(t), m.seems(t));
                case 21, 22, 23, 24 -> note(p, t);
                case 25 -> { if (any(3) == 0) same("clear()", x.clear(), m.clear()); }
                case 26 -> same("fits(" + i + ")", x.fits(i), m.fits(i));
                case 27 -> same("odds(" + i + ", " + two + ")", x.odds(i, two), m.odds(i, two));
                case 28, 29, 46 -> { int w = within(3); same("which(" + w + ")", x.which(w), m.which(w)); }
                case 30 -> same("next()", x.next(), m.next());
                case 31, 32 -> {
                    int n = any(2) == 0 ? any(12) : within(100);
                    same("least(" + p + ", " + n + ")", x.least(p, n), m.least(p, n));
                }
                case 33 -> { int c = within(41); same("eased(" + p + ", " + c + ")", x.eased(p, c), m.eased(p, c)); }
                case 34 -> same("parted(" + i + ", " + j + ")", x.parted(i, j), m.parted(i, j));
                case 35 -> same("quiet(" + two + ")", x.quiet(two), m.quiet(two));
                case 36, 37 -> same("moved(" + i + ", " + p + ")", x.moved(i, p), m.moved(i, p));
                case 38, 45 -> same("older()", x.older(), m.older());
                case 39 -> same("harm(" + i + ")", x.harm(i), m.harm(i));
                case 40, 41 -> acts(i);
                case 42 -> { int k = within(7); same("as(" + i + ", " + k + ")", x.as(i, k), m.as(i, k)); }
                case 43 -> {
                    if (any(4) == 0) same("image()", x.image(), m.image());
                    else if (any(3) == 0) same("undo()", x.undo(), m.undo());
                }
                default -> { int w = within(5); same("count(" + w + ")", x.count(w), m.count(w)); }
            }
        }

        /** Mostly rows that are heard so now, or that one set of noises would be heard so. */
        void note(int p, int t) {
            int n = any(3) == 0 ? within(100) : any(4);
            if (any(8) > 0) {
                State from = any(3) == 0 ? m.s.with(random.nextInt()) : seed % 2 == 0 ? m.s : m.s.with(set);
                for (int tries = 0; tries < 12; tries++) {
                    p = any(10);
                    t = any(40);
                    n = from.heard(p, t);
                    if (n > 0) break;
                }
            }
            same("note(" + p + ", " + t + ", " + n + ")", x.note(p, t, n), m.note(p, t, n));
        }

        void acts(int i) {
            int act = within(3), number = any(3) == 0 ? random.nextInt() : any(40) - 20;
            same("act(" + i + ", " + act + ", " + number + ")", x.act(i, act, number), m.act(i, act, number));
            for (int at = -1; at < 8; at += 1 + any(2)) same("trace(" + at + ")", x.trace(at), m.trace(at));
        }
    }
}
