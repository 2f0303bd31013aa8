/** The edges of promises 7 to 13, sentence by sentence: noises, how they knock, how loud they are, what is heard. */
public final class KnockPipesEdgesOfNoises extends Asking {
    public static void main(String[] args) {
        kindsAndPlaces();
        vsAndLoudness();
        firstRefusals();
        tenNoises();
        ofNoises();
        stillNoises();
        stillOnes();
        knocksAsked();
        lengths();
        holds();
        plainNoises();
        plainNoisesByE();
        tickingAtFirst();
        tickingByHold();
        tickingSticks();
        struck();
        humming();
        hummingGaps();
        steamed();
        steamedAsTicking();
        gurgling();
        nextDoor();
        aheadOfMinute0();
        loudAsked();
        loudByAir();
        loudByIron();
        loudWhenWarm();
        heardAsked();
        heardByHear();
        heardTogether();
        seemsAsked();
        seemsOfSeveral();
        end("edges of noises");
    }

    // ---- 7 noise

    static void kindsAndPlaces() {
        says(7, "NONE: kind, place");
        KnockPipes x = new KnockPipes();
        for (int kind : new int[] {-1, 7, 8}) due("kind " + kind, x.noise(kind, 0, 0, 1), NONE);
        for (int place : new int[] {-1, 10, 11}) due("place " + place, x.noise(0, place, 0, 1), NONE);
        for (int no : WILD) {
            due("kind " + no, x.noise(no, 0, 0, 1), NONE);
            due("place " + no, x.noise(0, no, 0, 1), NONE);
        }
        due("there are none", x.count(0), 0);
        for (int kind = 0; kind <= 6; kind++) {
            due("kind " + kind, x.noise(kind, 0, 0, 1), kind);
            due("it is of it", x.of(kind, 0), kind);
        }
        says(7, "PLACES 0 .. 9 in a row");
        x = new KnockPipes();
        for (int place = 0; place <= 9; place++) {
            due("place " + place, x.noise(0, place, 0, 1), place);
            due("it is there", x.of(place, 1), place);
        }
    }

    static void vsAndLoudness() {
        says(7, "a number v (0 .. 9), LOUDNESS (1 .. 40)");
        KnockPipes x = new KnockPipes();
        for (int v : new int[] {-1, 10, 11}) due("v " + v, x.noise(0, 0, v, 1), BAD);
        for (int loudness : new int[] {-1, 0, 41, 42}) due("loudness " + loudness, x.noise(0, 0, 0, loudness), BAD);
        for (int no : WILD) {
            due("v " + no, x.noise(0, 0, no, 1), BAD);
            due("loudness " + no, x.noise(0, 0, 0, no), BAD);
        }
        due("there are none", x.count(0), 0);
        for (int v = 0; v <= 9; v++) {
            int loudness = v < 5 ? v + 1 : 31 + v;
            due("v " + v + ", loudness " + loudness, x.noise(0, 0, v, loudness), v);
            due("its v", x.of(v, 2), v);
            due("its loudness", x.of(v, 3), loudness);
        }
    }

    static void firstRefusals() {
        says(7, "NONE: kind, place; BAD: v, loudness; FULL");
        for (int count = 0; count <= 10; count += 5) {
            KnockPipes x = new KnockPipes();
            for (int i = 0; i < count; i++) x.noise(0, 0, 0, 1);
            due("kind ahead of v", x.noise(7, 0, 10, 1), NONE);
            due("kind ahead of loudness", x.noise(-1, 0, 0, 0), NONE);
            due("place ahead of v", x.noise(0, 10, -1, 1), NONE);
            due("place ahead of loudness", x.noise(0, -1, 0, 41), NONE);
            due("all of them", x.noise(7, 10, 10, 41), NONE);
            due("v and loudness", x.noise(6, 9, 10, 0), BAD);
            due("as many as ahead", x.count(0), count);
        }
        KnockPipes x = new KnockPipes();
        for (int i = 0; i < 10; i++) x.noise(0, 0, 0, 1);
        due("kind ahead of FULL", x.noise(7, 0, 0, 1), NONE);
        due("place ahead of FULL", x.noise(0, 10, 0, 1), NONE);
        due("v ahead of FULL", x.noise(0, 0, 10, 1), BAD);
        due("loudness ahead of FULL", x.noise(0, 0, 0, 0), BAD);
        due("loudness ahead of FULL", x.noise(0, 0, 0, 41), BAD);
    }

    static void tenNoises() {
        says(7, "NOISES are numbered from 0 on, 10 at most");
        KnockPipes x = new KnockPipes();
        for (int i = 0; i < 10; i++) {
            due("there are", x.count(0), i);
            due("a refused one has no number", x.noise(0, 0, 10, 1), BAD);
            due("noise", x.noise(i % 7, 9 - i, i, 40 - i), i);
        }
        due("an eleventh", x.noise(0, 0, 0, 1), FULL);
        due("a twelfth", x.noise(6, 9, 9, 40), FULL);
        due("there are", x.count(0), 10);
        for (int i = 0; i < 10; i++) {
            int of = x.of(i, 0) * 10000 + x.of(i, 1) * 1000 + x.of(i, 2) * 100 + x.of(i, 3);
            due("as they were, " + i, of, i % 7 * 10000 + (9 - i) * 1000 + i * 100 + 40 - i);
        }
    }

    // ---- 8 of, 9 still

    static void ofNoises() {
        says(8, "Of a NOISE what 0 KIND, 1 PLACE, 2 v, 3 LOUDNESS, 4 whether it is STILL. NONE.");
        KnockPipes x = new KnockPipes();
        due("no noises, of(0, 0)", x.of(0, 0), NONE);
        for (int count = 1; count <= 10; count++) {
            x.noise(6, 9, 8, 33);
            int i = count - 1;
            int[] of = {6, 9, 8, 33, 0};
            for (int what = 0; what < 5; what++) due("of(" + i + ", " + what + ")", x.of(i, what), of[what]);
            for (int what : new int[] {-1, 5, 6}) due("of(" + i + ", " + what + ")", x.of(i, what), NONE);
            due("of(" + count + ", 0)", x.of(count, 0), NONE);
            due("of(-1, 0)", x.of(-1, 0), NONE);
        }
        for (int no : WILD) {
            due("of(" + no + ", 0)", x.of(no, 0), NONE);
            due("of(0, " + no + ")", x.of(0, no), NONE);
        }
    }

    static void stillNoises() {
        says(9, "A NOISE is STILL, or not: whether it was. NONE.");
        KnockPipes x = new KnockPipes();
        due("no noises", x.still(0, true), NONE);
        for (int i = 0; i < 10; i++) x.noise(0, 0, 0, 1);
        for (int i : new int[] {0, 9, 4}) {
            due("not at first", x.of(i, 4), 0);
            due("not, again", x.still(i, false), 0);
            due("still", x.still(i, true), 0);
            due("still again", x.still(i, true), 1);
            for (int j = 0; j < 10; j++) due("just it is, " + j, x.of(j, 4), i == j ? 1 : 0);
            due("not", x.still(i, false), 1);
            due("not again", x.still(i, false), 0);
            due("it is not", x.of(i, 4), 0);
        }
        for (int no : new int[] {-1, 10, 11, 31, 32, 33}) {
            due("still(" + no + ", true)", x.still(no, true), NONE);
            due("still(" + no + ", false)", x.still(no, false), NONE);
        }
        for (int no : WILD) due("still(" + no + ", true)", x.still(no, true), NONE);
        for (int j = 0; j < 10; j++) due("none is, " + j, x.of(j, 4), 0);
        says(9, "it is STILL, or not (not at first)");
        x = new KnockPipes();
        x.noise(0, 0, 0, 1);
        x.still(0, true);
        due("still(1, true) ahead of the noise", x.still(1, true), NONE);
        x.noise(0, 0, 0, 1);
        due("the one behind a still one is not", x.of(1, 4), 0);
    }

    /** Noises of all kinds by number, each of which knocks. */
    static KnockPipes lively() {
        KnockPipes x = in("warm 2;grow 10 k=1|k=4");
        for (int kind = 0; kind < 7; kind++) x.noise(kind, kind, 5, 40);
        x.day(0, minutes(0, 9));
        x.day(1, at(2, 3));
        x.day(2, minutes(10, 15));
        return x;
    }

    static void stillOnes() {
        says(10, "How often one KNOCKS in a MINUTE (0, if it is STILL)");
        for (int i = 0; i < 7; i++) {
            KnockPipes x = lively();
            due("it knocks", x.harm(i) > 0 ? 1 : 0, 1);
            x.still(i, true);
            due("it does not, noise " + i, knocking(x, i), 0);
            for (int m = 0; m < 40; m++) due("knocks", x.knocks(i, m, 2), 0);
            for (int j = 0; j < 7; j++) due("the others do", x.harm(j) > 0 ? 1 : 0, i == j ? 0 : 1);
            due("its length is as ever", x.knocks(i, 4, 0), i == 1 || i == 4 ? 10 : 0);
            x.still(i, false);
            due("it knocks again", x.harm(i) > 0 ? 1 : 0, 1);
        }
    }

    // ---- 10 knocks

    static void knocksAsked() {
        says(10, "Of a NOISE in a MINUTE what 0 LENGTH, 1 HOLD, 2 KNOCKS. NONE.");
        KnockPipes x = in("warm 10;hold 4 t<99;grow 10 t=39|t=0");
        due("no noises", x.knocks(0, 0, 0), NONE);
        x.noise(1, 0, 0, 1);
        x.noise(1, 0, 0, 1);
        x.day(0, at(0, 39));
        for (int m : new int[] {0, 39}) {
            due("length in " + m, x.knocks(1, m, 0), 10);
            due("hold in " + m, x.knocks(1, m, 1), 4);
            due("knocks in " + m, x.knocks(1, m, 2), 2);
        }
        for (int what = 0; what < 3; what++) {
            due("minute -1", x.knocks(1, -1, what), NONE);
            due("minute 40", x.knocks(1, 40, what), NONE);
            due("noise -1", x.knocks(-1, 0, what), NONE);
            due("noise 2", x.knocks(2, 0, what), NONE);
            for (int no : WILD) {
                due("minute " + no, x.knocks(1, no, what), NONE);
                due("noise " + no, x.knocks(no, 0, what), NONE);
            }
        }
        due("what -1", x.knocks(1, 0, -1), NONE);
        due("what 3", x.knocks(1, 0, 3), NONE);
        for (int no : WILD) due("what " + no, x.knocks(1, 0, no), NONE);
    }

    static void lengths() {
        says(10, "WARMTH times the n of all grow whose E holds, together, by 10 (cut)");
        KnockPipes x = in("warm 1;grow 1 n=0;grow 5 n=1;grow 5 n=1;grow 3 n=2;grow 0 n=3");
        for (int i = 0; i < 5; i++) x.noise(6 - i, 0, 0, 1);
        x.day(0, ALL);
        for (int m = 0; m < 40; m++) {
            due("by 1", x.knocks(0, m, 0), m < 9 ? 0 : m < 19 ? 1 : m < 29 ? 2 : m < 39 ? 3 : 4);
            due("by 5 and 5, together ahead of the cut", x.knocks(1, m, 0), m + 1);
            due("by 3", x.knocks(2, m, 0), 3 * (m + 1) / 10);
            due("by 0", x.knocks(3, m, 0), 0);
            due("by none", x.knocks(4, m, 0), 0);
        }
        x = in("warm 99;grow 99 t<99;" + "grow 99 t<9;".repeat(8).substring(0, 95));
        x.noise(0, 0, 0, 1);
        x.day(0, at(0));
        due("the longest", x.knocks(0, 0, 0), 99 * 99 * 9 / 10);
        due("one of them holds on, cold", x.knocks(0, 39, 0), 99 * 60 / 10);
    }

    static void holds() {
        says(10, "the n of all hold whose E holds, together (1 at least)");
        KnockPipes x = in("hold 0 n<3;hold 1 n=1|n=2;hold 1 n=2;hold 2 n=4;hold 99 n=5;hold 99 n=5;grow 50 n<9");
        for (int i = 0; i < 7; i++) x.noise(i, 0, 0, 1);
        int[] want = {1, 1, 2, 1, 2, 198, 1};
        for (int i = 0; i < 7; i++) due("hold of " + i, x.knocks(i, 39, 1), want[i]);
        x = new KnockPipes();
        x.noise(1, 0, 0, 1);
        due("hold without a house", x.knocks(0, 0, 1), 1);
        house(x, "hold 5 t=7");
        due("ahead of when it holds", x.knocks(0, 6, 1), 1);
        due("when it holds", x.knocks(0, 7, 1), 5);
        due("behind", x.knocks(0, 8, 1), 1);
    }

    static void plainNoises() {
        says(10, "NOISE: once, if E of no grow and no hold holds for it then, and the MINUTE modulo 10 is v");
        KnockPipes x = in("air 4");
        for (int v = 0; v < 10; v++) x.noise(0, 0, v, 1);
        for (int v = 0; v < 10; v++) {
            for (int m = 0; m < 40; m++) due("v " + v + " in " + m, x.knocks(v, m, 2), m % 10 == v ? 1 : 0);
        }
    }

    static void plainNoisesByE() {
        says(10, "if E of no grow and no hold holds for it then");
        KnockPipes x = in("grow 0 t=13;hold 0 t=23&p<2;grow 9 n=4;hold 9 n=5;grow 1 n>9;hold 1 t>39");
        x.noise(0, 0, 3, 1);
        x.noise(0, 1, 3, 1);
        x.noise(0, 2, 3, 1);
        x.noise(0, 0, 4, 1);
        x.noise(0, 0, 4, 1);
        x.noise(0, 0, 4, 1);
        due("neither when grow nor when hold holds", knocking(x, 0), at(3, 33));
        due("nor another so", knocking(x, 1), at(3, 33));
        due("hold holds for others alone", knocking(x, 2), at(3, 23, 33));
        due("in no minute of its own", knocking(x, 3), at(4, 14, 24, 34));
        due("always, by grow", knocking(x, 4), 0);
        due("always, by hold", knocking(x, 5), 0);
    }

    /** Warmth is 10 all the day here, so that a length is the n of the grows. */
    static KnockPipes ticking(String clauses) {
        KnockPipes x = in("warm 10;cool 0;" + clauses);
        x.noise(1, 0, 0, 1);
        x.day(0, at(0));
        return x;
    }

    static void knocksAre(String what, KnockPipes x, int noise, int... want) {
        for (int m = 0; m < want.length; m++) due(what + " in " + m, x.knocks(noise, m, 2), want[m]);
    }

    static void tickingAtFirst() {
        says(10, "it STICKS at a LENGTH (0 ahead of MINUTE 0)");
        knocksAre("of length 5 at first", ticking("grow 5 t<9"), 0, 5, 0, 0, 0, 0, 0, 0, 0, 0, 5, 0);
        knocksAre("of length 0 at first", ticking("grow 5 t>0"), 0, 0, 5, 0, 0);
        KnockPipes x = in("grow 10 t<99");
        x.noise(1, 0, 0, 1);
        due("cold all the day", knocking(x, 0), 0);
    }

    static void tickingByHold() {
        says(10, "how far its LENGTH then is from that, by its HOLD then (cut; 9 at most)");
        for (int hold : new int[] {0, 1, 2, 3, 9, 10, 11, 99}) {
            for (int length = 0; length <= 99; length++) {
                KnockPipes x = ticking("grow " + length + " t=1;hold " + hold + " t<9");
                int want = Math.min(9, length / Math.max(1, hold));
                due(length + " by " + hold, x.knocks(0, 1, 2), want);
                due("and back, if it stuck there", x.knocks(0, 2, 2), want);
            }
        }
        knocksAre("by the hold of that minute", ticking("grow 8 t<3;hold 9 t=0;hold 4 t=1"), 0, 0, 2, 0, 8, 0);
        knocksAre("9 at most", ticking("grow 8 t=0;grow 17 t=1;grow 27 t=2;grow 16 t=3"), 0, 8, 9, 9, 9, 9, 0);
    }

    static void tickingSticks() {
        says(10, "if that is 1 or more, it STICKS at its LENGTH then");
        String grows = "grow 2 t=0;grow 5 t=1;grow 7 t=2;grow 8 t=3;grow 6 t=4;grow 5 t=5";
        knocksAre("it sticks at 0, 5, 5, 8, 8, 5, 0", ticking("hold 3 t<99;" + grows), 0, 0, 1, 0, 1, 0, 1, 1, 0);
        knocksAre("it sticks where it is, beyond 9", ticking("grow 50 t<3;grow 10 t=1"), 0, 9, 9, 9, 9, 0);
        knocksAre("and by 5", ticking("hold 5 t<9;grow 50 t=0;grow 60 t=1;grow 60 t=2"), 0, 9, 2, 0, 9, 0);
    }

    static void struck() {
        says(10, "STRUCK: v times, if the TAP is off, and was on in the MINUTE ahead");
        KnockPipes x = new KnockPipes();
        for (int v = 0; v < 10; v++) x.noise(2, 0, v, 1);
        x.day(1, at(0, 5, 6, 38));
        for (int v = 0; v < 10; v++) {
            for (int m = 0; m < 40; m++) {
                due("v " + v + " in " + m, x.knocks(v, m, 2), m == 1 || m == 7 || m == 39 ? v : 0);
            }
        }
        x = new KnockPipes();
        x.noise(2, 0, 9, 1);
        due("the tap off all the day", knocking(x, 0), 0);
        x.day(1, ALL);
        due("on all the day", knocking(x, 0), 0);
        x.day(1, at(39));
        due("on in minute 39", knocking(x, 0), 0);
        x.day(1, ALL - 1);
        due("off in minute 0", knocking(x, 0), 0);
        x.day(1, ALL >> 1);
        due("off in minute 39", knocking(x, 0), at(39));
    }

    /** The minutes of one run that end v minutes of it, or more. */
    static long behind(int from, int to, int v) {
        return minutes(from + Math.max(1, v) - 1, to);
    }

    static void humming() {
        says(10, "HUMMING: once, if the PUMP is on, and was in so many MINUTES one behind the other up to this one"
            + " (this one, too) as v, or more (v 0 as 1)");
        int[][] runs = {{0, 0}, {0, 1}, {0, 8}, {0, 39}, {3, 3}, {3, 7}, {3, 10}, {3, 11}, {3, 12}, {31, 39}, {32, 39}, {39, 39}};
        for (int[] run : runs) {
            KnockPipes x = new KnockPipes();
            for (int v = 0; v < 10; v++) x.noise(3, 0, v, 1);
            x.day(2, minutes(run[0], run[1]));
            for (int v = 0; v < 10; v++) {
                due("v " + v + ", on from " + run[0] + " to " + run[1], knocking(x, v), behind(run[0], run[1], v));
            }
        }
        KnockPipes x = new KnockPipes();
        x.noise(3, 0, 0, 1);
        x.noise(3, 0, 9, 1);
        x.day(2, ALL);
        for (int m = 0; m < 40; m++) {
            due("once, v 0", x.knocks(0, m, 2), 1);
            due("once, v 9", x.knocks(1, m, 2), m < 8 ? 0 : 1);
        }
    }

    static void hummingGaps() {
        says(10, "in so many MINUTES one behind the other up to this one");
        for (int pump = 0; pump < 2; pump++) {
            KnockPipes x = new KnockPipes();
            for (int v = 0; v < 5; v++) x.noise(pump == 0 ? 3 : 6, 0, v, 1);
            long runs = minutes(2, 4) | minutes(6, 9) | at(11) | minutes(13, 14);
            x.day(2, pump == 0 ? runs : ALL & ~runs);
            due("v 0", knocking(x, 0), runs);
            due("v 1", knocking(x, 1), runs);
            due("v 2", knocking(x, 2), at(3, 4, 7, 8, 9, 14));
            due("v 3", knocking(x, 3), at(4, 8, 9));
            due("v 4", knocking(x, 4), at(9));
        }
    }

    static void steamed() {
        says(10, "STEAMED: as TICKING, if WARMTH is more than in the MINUTE ahead; else not (it STICKS as told all the same)");
        KnockPipes x = in("warm 10;cool 10;grow 10 t<99;hold 4 t<99");
        x.noise(4, 0, 0, 1);
        x.day(0, at(0, 1, 3));
        // 10, 20, 10, 20, 10, 0
        knocksAre("more, more, less, more", x, 0, 2, 2, 0, 2, 0, 0, 0);
        x = in("warm 99;cool 0;grow 10 t=1;grow 5 t=3");
        x.noise(4, 0, 0, 1);
        x.noise(1, 0, 0, 1);
        x.day(0, ALL);
        knocksAre("steamed, no warmer by the bound", x, 0, 0, 0, 0, 0, 0);
        knocksAre("ticking, no warmer by the bound", x, 1, 0, 9, 9, 9, 9);
        x = in("warm 1;cool 0;grow 99 t=0;grow 90 t=1;grow 9 t>0;hold 3 t<9");
        x.noise(4, 0, 0, 1);
        x.day(0, at(0, 2));
        // lengths 9, 9, 1 (of 2 times 9 by 10)
        knocksAre("1 more than ahead of minute 0; as much; 1 more", x, 0, 3, 0, 2);
    }

    static void steamedAsTicking() {
        says(10, "STEAMED: as TICKING, if WARMTH is more than in the MINUTE ahead");
        long[] days = {ALL, minutes(0, 9), 0x5555555555L, 0xF0F0F0F0F0L, 0x8421084210L, minutes(30, 39), at(39), 0};
        for (long day : days) {
            KnockPipes x = in("warm 7;cool 4;grow 6 t<33;grow 9 t>5&t<29;hold 4 t>9;hold 3 t>19");
            x.noise(1, 0, 0, 1);
            x.noise(4, 0, 0, 1);
            x.day(0, day);
            for (int m = 0; m < 40; m++) {
                boolean warmer = x.warmth(m) > (m == 0 ? 0 : x.warmth(m - 1));
                due("in " + m, x.knocks(1, m, 2), warmer ? x.knocks(0, m, 2) : 0);
            }
        }
    }

    static void gurgling() {
        says(10, "GURGLING: as STRUCK, and once if the TAP is on, and was off in the MINUTE ahead");
        KnockPipes x = new KnockPipes();
        for (int v = 0; v < 10; v++) x.noise(5, 0, v, 1);
        x.day(1, at(0, 5, 6, 38));
        for (int v = 0; v < 10; v++) {
            for (int m = 0; m < 40; m++) {
                boolean on = m == 0 || m == 5 || m == 38, off = m == 1 || m == 7 || m == 39;
                due("v " + v + " in " + m, x.knocks(v, m, 2), on ? 1 : off ? v : 0);
            }
        }
        x = new KnockPipes();
        x.noise(5, 0, 4, 1);
        due("the tap off all the day", knocking(x, 0), 0);
        x.day(1, ALL);
        due("on all the day", knocking(x, 0), at(0));
        x.day(1, at(39));
        due("on in minute 39", knocking(x, 0), at(39));
        x.day(1, 0x5555555555L);
        for (int m = 0; m < 40; m++) due("by turns, in " + m, x.knocks(0, m, 2), m % 2 == 0 ? 1 : 4);
    }

    static void nextDoor() {
        says(10, "NEXT DOOR: as HUMMING, but the PUMP being off");
        int[][] runs = {{0, 0}, {0, 1}, {0, 8}, {0, 39}, {3, 3}, {3, 7}, {3, 10}, {3, 11}, {3, 12}, {31, 39}, {32, 39}, {39, 39}};
        for (int[] run : runs) {
            KnockPipes x = new KnockPipes();
            for (int v = 0; v < 10; v++) x.noise(6, 0, v, 1);
            x.day(2, ALL & ~minutes(run[0], run[1]));
            for (int v = 0; v < 10; v++) {
                due("v " + v + ", off from " + run[0] + " to " + run[1], knocking(x, v), behind(run[0], run[1], v));
            }
        }
        KnockPipes x = new KnockPipes();
        x.noise(6, 0, 0, 1);
        x.day(2, ALL);
        due("on all the day", knocking(x, 0), 0);
        x.day(2, 0);
        for (int m = 0; m < 40; m++) due("once", x.knocks(0, m, 2), 1);
    }

    static void aheadOfMinute0() {
        says(10, "(Ahead of MINUTE 0 there are no MINUTES of HUMMING; BOILER, TAP are off.)");
        KnockPipes x = new KnockPipes();
        for (int v = 0; v < 4; v++) x.noise(3, 0, v, 1);
        for (int v = 0; v < 4; v++) x.noise(6, 0, v, 1);
        x.day(2, ALL);
        int[] first = {0, 0, 1, 2};
        for (int v = 0; v < 4; v++) due("humming from " + first[v], knocking(x, v), minutes(first[v], 39));
        x.day(2, 0);
        for (int v = 0; v < 4; v++) due("next door from " + first[v], knocking(x, 4 + v), minutes(first[v], 39));
        x = new KnockPipes();
        x.noise(2, 0, 3, 1);
        x.noise(5, 0, 3, 1);
        x.day(1, at(0));
        due("struck, the tap on in minute 0", x.knocks(0, 0, 2), 0);
        due("gurgling, the tap on in minute 0", x.knocks(1, 0, 2), 1);
        x.day(1, 0);
        due("struck, the tap off in minute 0", x.knocks(0, 0, 2), 0);
        due("gurgling, the tap off in minute 0", x.knocks(1, 0, 2), 0);
    }

    // ---- 11 loud

    static void loudAsked() {
        says(11, "LOUD of a NOISE at a PLACE in a MINUTE (whether it KNOCKS or not). NONE.");
        KnockPipes x = new KnockPipes();
        due("no noises", x.loud(0, 0, 0), NONE);
        x.noise(0, 0, 0, 37);
        x.noise(0, 9, 0, 37);
        for (int m : new int[] {0, 1, 39}) {
            due("there, in " + m, x.loud(0, 0, m), 37);
            due("nine off, in " + m, x.loud(0, 9, m), 1);
            due("nine off the other way, in " + m, x.loud(1, 0, m), 1);
            due("there, in " + m, x.loud(1, 9, m), 37);
        }
        x.still(1, true);
        due("a still one", x.loud(1, 8, 0), 33);
        due("noise -1", x.loud(-1, 0, 0), NONE);
        due("noise 2", x.loud(2, 0, 0), NONE);
        due("place -1", x.loud(0, -1, 0), NONE);
        due("place 10", x.loud(0, 10, 0), NONE);
        due("minute -1", x.loud(0, 0, -1), NONE);
        due("minute 40", x.loud(0, 0, 40), NONE);
        for (int no : WILD) {
            due("noise " + no, x.loud(no, 0, 0), NONE);
            due("place " + no, x.loud(0, no, 0), NONE);
            due("minute " + no, x.loud(0, 0, no), NONE);
        }
    }

    /** How loud the noises are from their place 4 outward, and inward as far. */
    static void loudIs(String what, KnockPipes x, int noise, int minute, int... want) {
        for (int off = 0; off < want.length; off++) {
            due(what + ", " + off + " off", x.loud(noise, 4 + off, minute), want[off]);
            if (off <= 4) due(what + ", " + off + " off the other way", x.loud(noise, 4 - off, minute), want[off]);
        }
    }

    static void loudByAir() {
        says(11, "LOUDNESS less air times how many PLACES it is off");
        KnockPipes x = in("air 5");
        x.noise(0, 4, 0, 11);
        x.noise(1, 4, 0, 10);
        x.noise(3, 4, 0, 9);
        x.noise(4, 4, 0, 1);
        x.noise(6, 4, 0, 40);
        loudIs("11", x, 0, 0, 11, 6, 1, 0, 0, 0);
        loudIs("10", x, 1, 0, 10, 5, 0, 0, 0, 0);
        loudIs("9", x, 2, 0, 9, 4, 0, 0, 0, 0);
        loudIs("1", x, 3, 0, 1, 0, 0, 0, 0, 0);
        loudIs("40", x, 4, 0, 40, 35, 30, 25, 20, 15);
        says(11, "0 at least");
        loudIs("just 0", x, 1, 0, 10, 5, 0);
        loudIs("1 under 0", x, 2, 0, 9, 4, 0);
        x = in("air 99");
        x.noise(0, 4, 0, 40);
        loudIs("all is swallowed", x, 0, 39, 40, 0, 0, 0, 0, 0);
        x = in("air 0");
        x.noise(0, 4, 0, 1);
        loudIs("nothing is swallowed", x, 0, 39, 1, 1, 1, 1, 1, 1);
    }

    static void loudByIron() {
        says(11, "or, if that is more, LOUDNESS less 5, and less iron times how many PLACES it is off");
        // by air it is 5 * off less, by iron 5 + 1 * off
        KnockPipes x = in("air 5;iron 1");
        x.noise(2, 4, 0, 11);
        x.noise(2, 4, 0, 5);
        x.noise(2, 4, 0, 6);
        loudIs("11", x, 0, 0, 11, 6, 4, 3, 2, 1);
        loudIs("5", x, 1, 0, 5, 0, 0, 0, 0, 0);
        loudIs("6", x, 2, 0, 6, 1, 0, 0, 0, 0);
        // one off: as loud by iron as by air, or one less, or one more
        int[][] airs = {{4, 16}, {5, 15}, {6, 15}};
        for (int[] air : airs) {
            x = in("iron 0;air " + air[0]);
            x.noise(2, 4, 0, 20);
            due("air " + air[0], x.loud(0, 5, 0), air[1]);
        }
        x = in("iron 0;air 99");
        x.noise(2, 4, 0, 40);
        loudIs("5 alone", x, 0, 0, 40, 35, 35, 35, 35, 35);
        x = in("iron 99;air 1");
        x.noise(2, 4, 0, 40);
        loudIs("iron swallows more", x, 0, 0, 40, 39, 38, 37, 36, 35);
        x = in("iron 35;air 99");
        x.noise(2, 4, 0, 40);
        loudIs("just 0 by iron", x, 0, 0, 40, 0, 0);
        x = in("iron 34;air 99");
        x.noise(2, 4, 0, 40);
        loudIs("1 by iron", x, 0, 0, 40, 1, 0);
    }

    static void loudWhenWarm() {
        says(11, "but this only if WARMTH in that MINUTE is above 0, or it is a STRUCK one (or one under that)");
        KnockPipes x = in("warm 1;cool 1;air 9;iron 1");
        for (int kind = 0; kind < 7; kind++) x.noise(kind, 4, 0, 20);
        x.day(0, at(0, 7, 39));
        for (int kind = 0; kind < 7; kind++) {
            boolean struck = kind == 2 || kind == 5;
            for (int m : new int[] {0, 1, 6, 7, 8, 38, 39}) {
                boolean warm = m == 0 || m == 7 || m == 39;
                due("kind " + kind + " in " + m, x.loud(kind, 6, m), warm || struck ? 13 : 2);
            }
        }
        x = in("warm 2;cool 1;air 9;iron 1");
        x.noise(0, 4, 0, 20);
        x.day(0, at(7));
        int[] want = {2, 13, 13, 2};
        for (int m = 6; m < 10; m++) due("warmth 0, 2, 1, 0 in " + m, x.loud(0, 6, m), want[m - 6]);
    }

    // ---- 12 heard

    static void heardAsked() {
        says(12, "HEARD at a PLACE in a MINUTE (-1: in the whole DAY). NONE.");
        KnockPipes x = new KnockPipes();
        x.noise(0, 0, 0, 40);
        x.noise(0, 0, 9, 40);
        for (int place : new int[] {0, 1, 8, 9}) {
            due("whole day at " + place, x.heard(place, -1), 8);
            due("minute 0 at " + place, x.heard(place, 0), 1);
            due("minute 1 at " + place, x.heard(place, 1), 0);
            due("minute 39 at " + place, x.heard(place, 39), 1);
            for (int no : new int[] {-2, 40, 41}) due("minute " + no, x.heard(place, no), NONE);
        }
        for (int place : new int[] {-1, 10, 11}) {
            due("place " + place, x.heard(place, 0), NONE);
            due("place " + place, x.heard(place, -1), NONE);
        }
        for (int no : WILD) {
            due("minute " + no, x.heard(0, no), NONE);
            due("place " + no, x.heard(no, -1), NONE);
        }
    }

    static void heardByHear() {
        says(12, "KNOCKS of all NOISES of which LOUD there is hear or more, together");
        for (int hear : new int[] {0, 1, 2, 9, 10, 11, 40, 41, 99}) {
            KnockPipes x = in("air 1;hear " + hear);
            x.noise(0, 0, 0, 10);
            for (int place = 0; place < 10; place++) {
                due("loud " + (10 - place) + ", hear " + hear, x.heard(place, 0), 10 - place >= hear ? 1 : 0);
                due("in the day", x.heard(place, -1), 10 - place >= hear ? 4 : 0);
            }
        }
        KnockPipes x = in("air 10");
        x.noise(0, 0, 0, 40);
        due("loud 10", x.heard(3, 0), 1);
        due("loud 0", x.heard(4, 0), 0);
        house(x, "air 10;hear 0");
        due("loud 0, hear 0", x.heard(4, 0), 1);
        due("loud 0 of less than 0, hear 0", x.heard(9, 0), 1);
        x = in("hear 40;air 0");
        x.noise(0, 5, 0, 40);
        x.noise(0, 5, 0, 39);
        due("40 is heard, 39 not", x.heard(0, 0), 1);
    }

    static void heardTogether() {
        says(12, "HEARD at a PLACE in a MINUTE: KNOCKS of all NOISES");
        KnockPipes x = new KnockPipes();
        due("without noises", x.heard(0, -1), 0);
        x.day(1, at(4, 38));
        for (int i = 0; i < 10; i++) {
            x.noise(2, i, 9, 40);
            due("so many", x.heard(i, 5), 9 * (i + 1));
            due("in the day", x.heard(9 - i, -1), 18 * (i + 1));
        }
        for (int i = 0; i < 10; i++) {
            x.still(i, true);
            due("but the still ones", x.heard(i, 39), 9 * (9 - i));
        }
        int sum = 0;
        x = lively();
        for (int m = 0; m < 40; m++) sum += x.heard(3, m);
        due("the day is its minutes", x.heard(3, -1), sum);
        due("and there is something", sum > 0 ? 1 : 0, 1);
    }

    // ---- 13 seems

    static void seemsAsked() {
        says(13, "SEEMS. NONE; -5.");
        KnockPipes x = new KnockPipes();
        for (int m : new int[] {0, 1, 38, 39}) due("no noises, seems(" + m + ")", x.seems(m), NOBODY);
        for (int m : new int[] {-1, 40, 41}) due("NONE ahead of -5, seems(" + m + ")", x.seems(m), NONE);
        x.noise(0, 9, 0, 1);
        x.noise(0, 0, 9, 1);
        due("the last place, minute 0", x.seems(0), 9);
        due("the first place, minute 39", x.seems(39), 0);
        due("none knocks", x.seems(1), NOBODY);
        due("none knocks", x.seems(38), NOBODY);
        for (int m : new int[] {-1, 40}) due("seems(" + m + ")", x.seems(m), NONE);
        for (int no : WILD) due("seems(" + no + ")", x.seems(no), NONE);
        x.still(0, true);
        due("a still one does not", x.seems(0), NOBODY);
    }

    static void seemsOfSeveral() {
        says(13, "the PLACE at which LOUD of all NOISES that KNOCK in a MINUTE, together, is greatest (of several the least"
            + "; -5: none KNOCKS)");
        KnockPipes x = in("air 5");
        x.noise(0, 8, 0, 20);
        x.noise(0, 3, 0, 20);
        due("as loud at 3 and 8", x.seems(0), 3);
        x.noise(0, 8, 0, 1);
        due("1 louder at 8", x.seems(0), 8);
        x.noise(0, 3, 0, 2);
        due("1 louder at 3", x.seems(0), 3);
        x.still(3, true);
        due("but it is still", x.seems(0), 8);
        x = in("air 0");
        x.noise(0, 7, 0, 20);
        due("as loud everywhere", x.seems(0), 0);
        // how often it knocks is not how loud it is
        x = in("air 40;iron 40");
        x.day(1, at(0));
        x.noise(2, 9, 9, 10);
        x.noise(0, 2, 1, 11);
        due("9 times 10 and once 11", x.seems(1), 2);
        x.noise(2, 5, 0, 40);
        due("struck by 0: it does not knock", x.seems(1), 2);
        // nor whether it is heard
        house(x, "hear 99;air 40;iron 40");
        due("heard nowhere", x.heard(2, -1), 0);
        due("and yet", x.seems(1), 2);
        // two add up between them
        x = in("air 4");
        x.noise(0, 4, 0, 12);
        x.noise(0, 6, 0, 12);
        x.noise(0, 5, 0, 1);
        due("12 and 4; 8 and 8 and 1", x.seems(0), 5);
    }
}
