import java.util.ArrayList;
import java.util.List;

/** Refused calls, and those that only ask, change nothing: two objects made alike, one of which was asked more. */
public final class KnockPipesRefusals extends Asking {
    static final int EMPTY = 0, SOME = 1, IMAGED = 2, FULL_ONE = 3, STATES = 4;
    static final String[] NAMES = {"an empty one", "one with some of all", "one with an image", "a full one"};

    interface Call {
        long on(KnockPipes x);
    }

    record Refused(String name, long answer, Call call) { }

    private static final List<Refused> refusals = new ArrayList<>();
    private static final List<Refused> questions = new ArrayList<>();

    public static void main(String[] args) {
        for (int state = 0; state < STATES; state++) {
            refusals.clear();
            questions.clear();
            refusalsOf(state);
            questionsOf(state);
            says(31, "They change nothing.");
            for (Refused refused : refusals) changesNothing(state, refused, true);
            says(31, "They change nothing.");
            for (Refused question : questions) changesNothing(state, question, false);
        }
        refusedActs();
        firstOfSeveral();
        manyCalls();
        end("refusals");
    }

    static KnockPipes made(int state) {
        KnockPipes x = new KnockPipes();
        if (state == EMPTY) return x;
        house(x, "warm 5;cool 2;air 3;iron 2;hear 2;grow 12 k=1|k=4&t>2;hold 3 n=1&p<9");
        x.day(0, minutes(1, 9));
        x.day(1, at(2, 3, 17));
        x.day(2, minutes(10, 15));
        int noises = state == FULL_ONE ? 10 : 4;
        for (int i = 0; i < noises; i++) x.noise((i * 4 + 1) % 7, 9 - i, i, 10 + 3 * i);
        x.still(1, true);
        int rows = state == FULL_ONE ? 12 : 3;
        for (int i = 0; i < rows; i++) x.note(9 - i % 10, 3 * i, i % 3);
        feed(x, "air 7;cool 1");
        x.act(2, 2, 77);
        if (state == SOME) return x;
        x.image();
        x.still(0, true);
        x.day(2, minutes(20, 21));
        x.note(0, 39, 99);
        feed(x, ";iron 0");
        if (state == FULL_ONE) {
            x.house();
            for (int i = 0; i < 3; i++) house(x, "hear " + i);
            x.image();
            feed(x, "air 7;cool 1" + "?".repeat(108));
        }
        return x;
    }

    /** All that can be asked of an object, without the trace. */
    static void look(KnockPipes x, List<Long> all) {
        for (int what = 0; what < 4; what++) all.add((long) x.count(what));
        for (int what = 0; what < 5; what++) all.add((long) x.told(what));
        for (int m : new int[] {0, 1, 9, 20, 39}) all.add((long) x.warmth(m));
        for (int i = 0; i < 10; i++) {
            for (int what = 0; what < 5; what++) all.add((long) x.of(i, what));
            all.add((long) x.harm(i));
            all.add((long) x.fits(i));
            all.add((long) x.knocks(i, 7, 0));
            all.add(x.parted(i, 0));
            all.add((long) x.heard(i, -1));
        }
        for (int what = 0; what < 3; what++) all.add((long) x.which(what));
        all.add((long) x.next());
        all.add((long) x.older());
        all.add((long) x.quiet(1));
        all.add((long) x.least(5, 6));
        all.add((long) x.eased(5, 9));
        all.add((long) x.moved(0, 5));
    }

    static List<Long> view(KnockPipes x, boolean withTrace) {
        List<Long> all = new ArrayList<>();
        look(x, all);
        for (int i = 0; withTrace && i < 8; i++) all.add((long) x.trace(i));
        if (withTrace) all.add((long) x.count(4));
        all.add((long) x.noise(0, 0, 0, 1));
        all.add((long) x.house());
        for (int what = 0; what < 5; what++) all.add((long) x.told(what));
        for (int what = 0; what < 3; what++) all.add((long) x.day(what, 0));
        all.add((long) x.clear());
        all.add((long) x.undo());
        look(x, all);
        all.add((long) x.house());
        for (int what = 0; what < 3; what++) all.add((long) x.day(what, 0));
        return all;
    }

    static void changesNothing(int state, Refused refused, boolean answers) {
        KnockPipes asked = made(state);
        long answer = refused.call.on(asked);
        if (answers) due(refused.name + " of " + NAMES[state], answer, refused.answer);
        boolean same = view(asked, true).equals(view(made(state), true));
        due(NAMES[state] + " is as it was ahead of " + refused.name, same ? 1 : 0, 1);
        due("and answers so again, " + refused.name, refused.call.on(made(state)), answer);
    }

    static void refused(String name, long answer, Call call) {
        refusals.add(new Refused(name, answer, call));
    }

    static void asked(String name, Call call) {
        questions.add(new Refused(name, 0, call));
    }

    static void refusalsOf(int state) {
        int count = state == EMPTY ? 0 : state == FULL_ONE ? 10 : 4;
        for (int no : new int[] {-1, 3}) refused("day(" + no + ", 1)", NONE, x -> x.day(no, 1));
        for (long no : new long[] {-1, ALL + 1}) refused("day(0, " + no + ")", BAD, x -> x.day(0, no));
        for (int no : new int[] {0, 9}) refused("feed(33, " + no + ")", BAD, x -> x.feed(33, no));
        for (int no : new int[] {-1, 5}) refused("told(" + no + ")", NONE, x -> x.told(no));
        for (int no : new int[] {-1, 7}) refused("noise(" + no + ", 0, 0, 1)", NONE, x -> x.noise(no, 0, 0, 1));
        for (int no : new int[] {-1, 10}) {
            refused("noise(0, " + no + ", 0, 1)", NONE, x -> x.noise(0, no, 0, 1));
            refused("noise(0, 0, " + no + ", 1)", BAD, x -> x.noise(0, 0, no, 1));
            refused("loud(0, " + no + ", 0)", NONE, x -> x.loud(0, no, 0));
            refused("heard(" + no + ", 0)", NONE, x -> x.heard(no, 0));
            refused("note(" + no + ", 0, 0)", NONE, x -> x.note(no, 0, 0));
            refused("least(" + no + ", 0)", NONE, x -> x.least(no, 0));
            refused("eased(" + no + ", 0)", NONE, x -> x.eased(no, 0));
            refused("moved(0, " + no + ")", NONE, x -> x.moved(0, no));
        }
        for (int no : new int[] {0, 41}) refused("noise(0, 0, 0, " + no + ")", BAD, x -> x.noise(0, 0, 0, no));
        for (int no : new int[] {-1, 40}) {
            refused("warmth(" + no + ")", NONE, x -> x.warmth(no));
            refused("knocks(0, " + no + ", 2)", NONE, x -> x.knocks(0, no, 2));
            refused("seems(" + no + ")", NONE, x -> x.seems(no));
            refused("note(0, " + no + ", 0)", NONE, x -> x.note(0, no, 0));
            refused("heard(0, " + (no < 0 ? -2 : no) + ")", NONE, x -> x.heard(0, no < 0 ? -2 : no));
        }
        for (int no : new int[] {-1, 100}) {
            refused("note(0, 0, " + no + ")", BAD, x -> x.note(0, 0, no));
            refused("least(0, " + no + ")", BAD, x -> x.least(0, no));
        }
        for (int no : new int[] {-1, 41}) refused("eased(0, " + no + ")", BAD, x -> x.eased(0, no));
        for (int no : new int[] {-1, 3}) refused("which(" + no + ")", NONE, x -> x.which(no));
        for (int no : new int[] {-1, 2}) refused("quiet(" + no + ")", NONE, x -> x.quiet(no));
        for (int no : new int[] {-1, 5}) refused("count(" + no + ")", NONE, x -> x.count(no));
        for (int no : new int[] {-1, 20}) refused("trace(" + no + ")", NONE, x -> x.trace(no));
        for (int no : new int[] {-1, count}) refusalsOfNoise(no);
        refused("parted(0, 0)", NO, x -> x.parted(0, 0));
        for (int no : new int[] {-1, 5}) refused("of(0, " + no + ")", NONE, x -> x.of(0, no));
        for (int no : new int[] {-1, 3}) refused("knocks(0, 0, " + no + ")", NONE, x -> x.knocks(0, 0, no));
        for (int no : new int[] {-1, 2}) refused("odds(0, " + no + ")", NONE, x -> x.odds(0, no));
        for (int no : new int[] {-1, 7}) refused("as(0, " + no + ")", NONE, x -> x.as(0, no));
        refusalsByState(state);
    }

    static void refusalsOfNoise(int no) {
        refused("of(" + no + ", 0)", NONE, x -> x.of(no, 0));
        refused("still(" + no + ", true)", NONE, x -> x.still(no, true));
        refused("still(" + no + ", false)", NONE, x -> x.still(no, false));
        refused("knocks(" + no + ", 0, 2)", NONE, x -> x.knocks(no, 0, 2));
        refused("loud(" + no + ", 0, 0)", NONE, x -> x.loud(no, 0, 0));
        refused("fits(" + no + ")", NONE, x -> x.fits(no));
        refused("odds(" + no + ", 0)", NONE, x -> x.odds(no, 0));
        refused("parted(" + no + ", 0)", NO, x -> x.parted(no, 0));
        refused("parted(0, " + no + ")", NO, x -> x.parted(0, no));
        refused("moved(" + no + ", 0)", NONE, x -> x.moved(no, 0));
        refused("harm(" + no + ")", NONE, x -> x.harm(no));
        refused("as(" + no + ", 0)", NONE, x -> x.as(no, 0));
    }

    static void refusalsByState(int state) {
        if (state == EMPTY) {
            refused("next()", NOBODY, x -> x.next());
            refused("which(0)", NOBODY, x -> x.which(0));
            refused("which(2)", NOBODY, x -> x.which(2));
            refused("seems(0)", NOBODY, x -> x.seems(0));
        } else {
            refused("as(0, 6)", OTHER_KIND, x -> x.as(0, 6));
        }
        if (state == EMPTY || state == SOME) refused("undo()", STATE, x -> x.undo());
        if (state != FULL_ONE) return;
        refused("house()", FULL, x -> x.house());
        refused("noise(0, 0, 0, 1)", FULL, x -> x.noise(0, 0, 0, 1));
        refused("note(0, 0, 0)", FULL, x -> x.note(0, 0, 0));
        for (int n = 1; n <= 8; n++) {
            int size = n;
            refused("feed(33, " + n + ")", FULL, x -> x.feed(33, size));
        }
    }

    /** The calls that only ask. */
    static void questionsOf(int state) {
        asked("warmth(5)", x -> x.warmth(5));
        asked("told(0)", x -> x.told(0));
        asked("heard(5, -1)", x -> x.heard(5, -1));
        asked("seems(5)", x -> x.seems(5));
        for (int i = 0; i < 3; i++) {
            int what = i;
            asked("which(" + i + ")", x -> x.which(what));
            asked("moved(" + i + ", 5)", x -> x.moved(what, 5));
            asked("of(" + i + ", 3)", x -> x.of(what, 3));
            asked("knocks(0, 5, " + i + ")", x -> x.knocks(0, 5, what));
            asked("loud(0, " + i + ", 5)", x -> x.loud(0, what, 5));
            asked("parted(0, " + i + ")", x -> x.parted(0, what));
            asked("trace(" + i + ")", x -> x.trace(what));
            asked("fits(" + i + ")", x -> x.fits(what));
            asked("harm(" + i + ")", x -> x.harm(what));
            asked("as(" + i + ", 0)", x -> x.as(what, 0));
            asked("odds(0, " + i + ")", x -> x.odds(0, what));
            asked("count(" + i + ")", x -> x.count(what));
            asked("quiet(" + i + ")", x -> x.quiet(what));
        }
        asked("next()", x -> x.next());
        asked("least(5, 3)", x -> x.least(5, 3));
        asked("eased(5, 30)", x -> x.eased(5, 30));
        asked("older()", x -> x.older());
    }

    static void firstOfSeveral() {
        says(31, "REFUSALS, of several the first one told");
        for (int state = 0; state < STATES; state++) {
            KnockPipes x = made(state);
            due("day: what, bits", x.day(3, -1), NONE);
            due("noise: kind, v", x.noise(-1, 0, -1, 1), NONE);
            due("noise: place, loudness", x.noise(0, 10, 0, 41), NONE);
            due("note: place, n", x.note(-1, 0, -1), NONE);
            due("note: minute, n", x.note(0, 40, 100), NONE);
            due("least: place, n", x.least(-1, -1), NONE);
            due("eased: place, c", x.eased(10, 41), NONE);
            due("as: k, another kind", x.as(0, 7), NONE);
            due("seems: minute, none knocks", x.seems(40), NONE);
            due("which: what, no noises", x.which(3), NONE);
            due("odds: noise, part", x.odds(10, 2), NONE);
            due("parted: no noise, one", x.parted(-1, -1), NO);
        }
        KnockPipes full = made(FULL_ONE);
        due("feed: n, full", full.feed(0, 9), BAD);
        due("feed: full", full.feed(0, 1), FULL);
        due("noise: kind, full", full.noise(7, 0, 0, 1), NONE);
        due("noise: v, full", full.noise(0, 0, 10, 1), BAD);
        due("noise: full", full.noise(0, 0, 0, 1), FULL);
        due("note: minute, full", full.note(0, -1, 0), NONE);
        due("note: n, full", full.note(0, 0, -1), BAD);
        due("note: full", full.note(0, 0, 0), FULL);
        due("house: full, a fault", full.house(), FULL);
    }

    /** Beyond the 512th call answers are free, but each call comes back. */
    static void manyCalls() {
        says(1, "nothing about an object after its 512th call");
        KnockPipes x = new KnockPipes();
        for (int i = 0; i < 20000; i++) {
            int a = i % 13 - 1;
            x.noise(a, a, a, i % 43);
            x.feed(word("air 7;a"), i % 10);
            x.house();
            x.note(a, i % 43 - 1, a);
            x.day(i % 4, (long) i << 20);
            x.still(a, i % 3 == 0);
            x.act(a, i % 4, i);
            x.trace(a);
            x.heard(a, i % 42 - 1);
            x.undo();
            if (i % 100 == 0) x.image();
            if (i % 50 == 0) x.clear();
        }
        due("they come back", x.count(5), NONE);
    }

    /** A refused act takes the trace away, and nothing else. */
    static void refusedActs() {
        says(27, "0, and no TRACE then: no such NOISE, act");
        int[][] nos = {{-1, 0}, {10, 0}, {0, -1}, {0, 3}};
        for (int state = 0; state < STATES; state++) {
            for (int[] no : nos) {
                KnockPipes asked = made(state);
                due("act(" + no[0] + ", " + no[1] + ", 5)", asked.act(no[0], no[1], 5), 0);
                due("no bodies", asked.count(4), 0);
                due("no trace", asked.trace(0), NONE);
                boolean same = view(asked, false).equals(view(made(state), false));
                due("all else is as it was", same ? 1 : 0, 1);
            }
        }
    }
}
