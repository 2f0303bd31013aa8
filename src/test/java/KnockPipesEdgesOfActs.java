/** The edges of promises 27 to 32, sentence by sentence: acts and their trace, kinds, the image, the counts. */
public final class KnockPipesEdgesOfActs extends Asking {
    static final int[] NUMBERS = {0, 1, -1, 2, 7, 100, -100, MOST_INT, MOST_INT - 1, LEAST_INT, LEAST_INT + 1,
        1 << 30, 1 << 29, -1 << 30, 0x55555555, 715827883, -715827883};

    public static void main(String[] args) {
        actAsked();
        actRefused();
        bodiesOfNoise();
        bodiesOfTicking();
        bodiesOfStruck();
        bodiesOfHumming();
        bodiesOfSteamed();
        bodiesOfGurgling();
        bodiesOfNextDoor();
        bodiesFromAbove();
        numbersOfNoises();
        actsWrap();
        actsOfStillOnes();
        traceAsked();
        traceOfTheLatest();
        traceKept();
        asAsked();
        asUnder();
        imageAnswers();
        undoWithout();
        imageOfDays();
        imageOfTapeAndHouses();
        imageOfNoises();
        imageOfNotebook();
        imageButTheTrace();
        imageStays();
        countAsked();
        countOfBodies();
        end("edges of acts and the image");
    }

    /** A noise of each kind by number, the v of which is 9 less that. */
    static KnockPipes ofAllKinds() {
        KnockPipes x = new KnockPipes();
        for (int kind = 0; kind < 7; kind++) x.noise(kind, 0, 9 - kind, 1);
        return x;
    }

    static void act(KnockPipes x, int noise, int act, int n, int want, int... bodies) {
        due("act(" + noise + ", " + act + ", " + n + ")", x.act(noise, act, n), want);
        due("bodies of it", x.count(4), bodies.length);
        for (int i = 0; i < bodies.length; i++) due("body " + i, x.trace(i), bodies[i]);
        due("behind its last body", x.trace(bodies.length), NONE);
        due("ahead of its first body", x.trace(-1), NONE);
    }

    // ---- 27 act

    static void actAsked() {
        says(27, "An ACT (0 grows, 1 strikes, 2 tells) of a NOISE with x");
        KnockPipes x = new KnockPipes();
        x.noise(0, 0, 1, 1);
        act(x, 0, 0, 10, 10, 1);
        act(x, 0, 1, 10, 9, 2, 1);
        act(x, 0, 2, 10, 18, 3, 2, 1);
        for (int i = 1; i < 10; i++) x.noise(0, 0, 1, 1);
        act(x, 9, 0, 10, 19, 1);
        act(x, 9, 1, 10, 18, 2, 1);
        act(x, 9, 2, 10, 36, 3, 2, 1);
    }

    static void actRefused() {
        says(27, "0, and no TRACE then: no such NOISE, act");
        KnockPipes x = new KnockPipes();
        act(x, 0, 0, 5, 0);
        x.noise(1, 0, 9, 1);
        x.noise(1, 0, 9, 1);
        int[][] refused = {{-1, 0}, {2, 0}, {3, 0}, {0, -1}, {0, 3}, {0, 4}, {-1, -1}, {2, 3}};
        for (int[] no : refused) {
            act(x, 1, 2, 5, 14, 3, 2, 11, 1);
            act(x, no[0], no[1], 5, 0);
            due("no body at all", x.trace(0), NONE);
        }
        for (int no : WILD) {
            act(x, 1, 0, 5, 16, 11, 1);
            act(x, no, 0, 5, 0);
            act(x, 1, 0, 5, 16, 11, 1);
            act(x, 1, no, 5, 0);
        }
    }

    static void bodiesOfNoise() {
        says(27, "NOISE: 1 grows: x + i. 2 strikes: grows(x) - v. 3 tells: strikes(x) * 2.");
        KnockPipes x = ofAllKinds();
        act(x, 0, 0, 5, 5, 1);
        act(x, 0, 1, 5, 5 - 9, 2, 1);
        act(x, 0, 2, 5, (5 - 9) * 2, 3, 2, 1);
        act(x, 0, 2, 9, 0, 3, 2, 1);
    }

    static void bodiesOfTicking() {
        says(27, "TICKING: 11 grows: super.grows(x * 3).");
        KnockPipes x = ofAllKinds();
        act(x, 1, 0, 5, 15 + 1, 11, 1);
        act(x, 1, 1, 5, 16 - 8, 2, 11, 1);
        act(x, 1, 2, 5, 8 * 2, 3, 2, 11, 1);
    }

    static void bodiesOfStruck() {
        says(27, "STRUCK: 21 strikes: -super.strikes(x).");
        KnockPipes x = ofAllKinds();
        act(x, 2, 0, 5, 5 + 2, 1);
        act(x, 2, 1, 9, -(11 - 7), 21, 2, 1);
        act(x, 2, 2, 9, -4 * 2, 3, 21, 2, 1);
    }

    static void bodiesOfHumming() {
        says(27, "HUMMING: 31 tells: super.tells(x) ^ 7.");
        KnockPipes x = ofAllKinds();
        act(x, 3, 0, 5, 5 + 3, 1);
        act(x, 3, 1, 5, 8 - 6, 2, 1);
        act(x, 3, 2, 5, 4 ^ 7, 31, 3, 2, 1);
        act(x, 3, 2, 0, -6 ^ 7, 31, 3, 2, 1);
    }

    static void bodiesOfSteamed() {
        says(27, "STEAMED: 41 tells: super.tells(x - 1) + grows(2).");
        KnockPipes x = ofAllKinds();
        act(x, 4, 0, 5, 15 + 4, 11, 1);
        act(x, 4, 1, 5, 19 - 5, 2, 11, 1);
        act(x, 4, 2, 5, (12 + 4 - 5) * 2 + 6 + 4, 41, 3, 2, 11, 1, 11, 1);
        says(27, "what stands in a body is done from the left on");
        act(x, 4, 2, 1, (0 + 4 - 5) * 2 + 6 + 4, 41, 3, 2, 11, 1, 11, 1);
    }

    static void bodiesOfGurgling() {
        says(27, "GURGLING: 51 grows: super.grows(x) ^ i.");
        KnockPipes x = ofAllKinds();
        act(x, 5, 0, 6, 11 ^ 5, 51, 1);
        act(x, 5, 1, 6, -(14 - 4), 21, 2, 51, 1);
        act(x, 5, 2, 6, -10 * 2, 3, 21, 2, 51, 1);
    }

    static void bodiesOfNextDoor() {
        says(27, "NEXT DOOR: 61 strikes: super.strikes(x) + v.");
        KnockPipes x = ofAllKinds();
        act(x, 6, 0, 5, 5 + 6, 1);
        act(x, 6, 1, 5, 11 - 3 + 3, 61, 2, 1);
        act(x, 6, 2, 5, 22 ^ 7, 31, 3, 61, 2, 1);
    }

    static void bodiesFromAbove() {
        says(27, "the body of its KIND, or, if that has none, of the next KIND above that has one");
        KnockPipes x = ofAllKinds();
        // by kind, the body that each act begins with
        int[][] first = {{1, 2, 3}, {11, 2, 3}, {1, 21, 3}, {1, 2, 31}, {11, 2, 41}, {51, 21, 3}, {1, 61, 31}};
        for (int kind = 0; kind < 7; kind++) {
            for (int act = 0; act < 3; act++) {
                x.act(kind, act, 0);
                due("first body of act " + act + " of kind " + kind, x.trace(0), first[kind][act]);
            }
        }
        says(27, "super.grows(..): so from the KIND above the body's on");
        // 51 goes on above GURGLING, where STRUCK has no body of its own; 61 above NEXT DOOR, where HUMMING has none
        act(x, 5, 0, 6, 11 ^ 5, 51, 1);
        act(x, 6, 1, 6, 12, 61, 2, 1);
        // 41 goes on above STEAMED, where TICKING has none; what NOISE's bodies send goes to STEAMED's kind again
        act(x, 4, 2, 3, (6 + 4 - 5) * 2 + 10, 41, 3, 2, 11, 1, 11, 1);
    }

    static void numbersOfNoises() {
        says(27, "i its number");
        for (int kind = 0; kind < 7; kind++) {
            KnockPipes x = new KnockPipes();
            for (int i = 0; i < 10; i++) {
                x.noise(kind, 9 - i, 4, 1);
                int plain = kind == 1 || kind == 4 ? 60 + i : 20 + i;
                due("kind " + kind + ", number " + i, x.act(i, 0, 20), kind == 5 ? plain ^ i : plain);
            }
        }
    }

    static int grows(int kind, int i, int x) {
        return kind == 1 || kind == 4 ? x * 3 + i : kind == 5 ? x + i ^ i : x + i;
    }

    static int strikes(int kind, int i, int v, int x) {
        int plain = grows(kind, i, x) - v;
        return kind == 2 || kind == 5 ? -plain : kind == 6 ? plain + v : plain;
    }

    static int tells(int kind, int i, int v, int x) {
        if (kind == 4) return strikes(kind, i, v, x - 1) * 2 + grows(kind, i, 2);
        int plain = strikes(kind, i, v, x) * 2;
        return kind == 3 || kind == 6 ? plain ^ 7 : plain;
    }

    static void actsWrap() {
        says(27, "ACTS of a NOISE with x (ints, wrapping)");
        KnockPipes x = ofAllKinds();
        act(x, 1, 0, MOST_INT, MOST_INT * 3 + 1, 11, 1);
        act(x, 6, 0, MOST_INT, LEAST_INT + 5, 1);
        act(x, 0, 1, LEAST_INT, LEAST_INT - 9, 2, 1);
        act(x, 0, 2, 1 << 30, (1 << 31) - 18, 3, 2, 1);
        // -LEAST_INT is LEAST_INT
        act(x, 2, 1, LEAST_INT + 5, LEAST_INT, 21, 2, 1);
        act(x, 4, 2, LEAST_INT, (MOST_INT * 3 + 4 - 5) * 2 + 10, 41, 3, 2, 11, 1, 11, 1);
        for (int kind = 0; kind < 7; kind++) {
            int v = 9 - kind;
            for (int n : NUMBERS) {
                due("grows of " + kind + " with " + n, x.act(kind, 0, n), grows(kind, kind, n));
                due("strikes of " + kind + " with " + n, x.act(kind, 1, n), strikes(kind, kind, v, n));
                due("tells of " + kind + " with " + n, x.act(kind, 2, n), tells(kind, kind, v, n));
            }
        }
    }

    static void actsOfStillOnes() {
        says(27, "An ACT (0 grows, 1 strikes, 2 tells) of a NOISE");
        KnockPipes x = ofAllKinds();
        x.still(4, true);
        act(x, 4, 2, 5, 32, 41, 3, 2, 11, 1, 11, 1);
        house(x, "grow 50 t<50");
        x.day(0, ALL);
        act(x, 4, 2, 5, 32, 41, 3, 2, 11, 1, 11, 1);
    }

    // ---- 28 trace

    static void traceAsked() {
        says(28, "THE TRACE's i-th body. NONE.");
        KnockPipes x = ofAllKinds();
        for (int i = -1; i < 3; i++) due("no act yet, trace(" + i + ")", x.trace(i), NONE);
        x.act(4, 2, 5);
        int[] bodies = {41, 3, 2, 11, 1, 11, 1};
        for (int i = 0; i < 7; i++) due("trace(" + i + ")", x.trace(i), bodies[i]);
        for (int i : new int[] {-1, 7, 8, 19, 20, 21}) due("trace(" + i + ")", x.trace(i), NONE);
        for (int no : WILD) due("trace(" + no + ")", x.trace(no), NONE);
        x.act(0, 0, 5);
        due("trace(0)", x.trace(0), 1);
        due("trace(1)", x.trace(1), NONE);
    }

    static void traceOfTheLatest() {
        says(28, "the numbers of the bodies that ran in the latest act(), as they began");
        KnockPipes x = ofAllKinds();
        act(x, 4, 2, 5, 32, 41, 3, 2, 11, 1, 11, 1);
        act(x, 0, 1, 5, -4, 2, 1);
        act(x, 5, 2, 5, -((10 ^ 5) - 4) * 2, 3, 21, 2, 51, 1);
        x.still(5, true);
        x.noise(0, 0, 0, 1);
        x.which(2);
        x.as(5, 0);
        x.house();
        int[] bodies = {3, 21, 2, 51, 1};
        for (int i = 0; i < 5; i++) due("other calls leave it, trace(" + i + ")", x.trace(i), bodies[i]);
        act(x, 8, 0, 5, 0);
        act(x, 7, 0, 5, 12, 1);
    }

    static void traceKept() {
        says(28, "the first 20 are kept");
        // the most that can run are 7
        for (int kind = 0; kind < 7; kind++) {
            for (int act = 0; act < 3; act++) {
                KnockPipes x = ofAllKinds();
                x.act(kind, act, 1);
                int ran = x.count(4);
                due("between 1 and 7 ran", ran >= 1 && ran <= 7 ? 1 : 0, 1);
                for (int i = 0; i < 25; i++) due("trace(" + i + ")", x.trace(i) == NONE ? 0 : 1, i < ran ? 1 : 0);
            }
        }
    }

    // ---- 29 as

    static void asAsked() {
        says(29, "NONE: noise, k; -6: it is of another KIND");
        KnockPipes x = new KnockPipes();
        due("no noises", x.as(0, 0), NONE);
        x.noise(6, 0, 0, 1);
        x.noise(1, 0, 9, 1);
        for (int noise : new int[] {-1, 2, 3}) {
            for (int k : new int[] {-1, 0, 1, 6, 7}) due("as(" + noise + ", " + k + ")", x.as(noise, k), NONE);
        }
        for (int k : new int[] {-1, 7, 8}) {
            due("NONE ahead of -6, as(0, " + k + ")", x.as(0, k), NONE);
            due("NONE ahead of -6, as(1, " + k + ")", x.as(1, k), NONE);
        }
        for (int no : WILD) {
            due("as(" + no + ", 0)", x.as(no, 0), NONE);
            due("as(0, " + no + ")", x.as(0, no), NONE);
        }
        due("its kind", x.as(0, 6), 0);
        due("the one above", x.as(0, 3), 0);
        due("the one above that", x.as(0, 0), 0);
        due("another", x.as(0, 5), OTHER_KIND);
        due("one under it", x.as(1, 4), OTHER_KIND);
        due("its kind", x.as(1, 1), 9);
        x.still(1, true);
        due("a still one", x.as(1, 0), 9);
    }

    static void asUnder() {
        says(29, "0 NOISE; 1 TICKING, 2 STRUCK, 3 HUMMING under NOISE; 4 STEAMED under TICKING; 5 GURGLING under STRUCK;"
            + " 6 NEXT DOOR under HUMMING");
        KnockPipes all = ofAllKinds();
        int[] above = {0, 0, 0, 0, 1, 2, 3};
        for (int kind = 0; kind < 7; kind++) {
            due("under NOISE, kind " + kind, all.as(kind, 0), 9 - kind);
            due("under the one above, kind " + kind, all.as(kind, above[kind]), 9 - kind);
            due("its own, kind " + kind, all.as(kind, kind), 9 - kind);
        }
        says(29, "A NOISE taken for a KIND k (0 .. 6), or one under that: its v");
        String[] taken = {"0", "01", "02", "03", "014", "025", "036"};
        for (int v = 0; v <= 9; v++) {
            KnockPipes x = new KnockPipes();
            for (int kind = 0; kind < 7; kind++) x.noise(6 - kind, 0, v, 1);
            for (int kind = 0; kind < 7; kind++) {
                for (int k = 0; k < 7; k++) {
                    boolean is = taken[kind].indexOf((char) ('0' + k)) >= 0;
                    due("kind " + kind + " as " + k, x.as(6 - kind, k), is ? v : OTHER_KIND);
                }
            }
        }
    }

    // ---- 30 image, 31 undo

    static void imageAnswers() {
        says(30, "THE IMAGE is taken: how many NOISES there are.");
        KnockPipes x = new KnockPipes();
        for (int i = 0; i <= 10; i++) {
            due("image", x.image(), i);
            due("image again", x.image(), i);
            due("nothing changes", x.count(0), i);
            x.noise(0, 0, 0, 1);
        }
        due("still ones are noises", x.still(0, true) + x.image(), 10);
    }

    static void undoWithout() {
        says(31, "All is as THE IMAGE: how many NOISES. STATE: there is none.");
        KnockPipes x = new KnockPipes();
        due("no image", x.undo(), STATE);
        x.noise(0, 3, 5, 40);
        x.day(0, 1);
        feed(x, "air");
        x.note(3, 5, 1);
        due("no image", x.undo(), STATE);
        due("nothing changes", x.count(0) + 10 * x.count(1) + 100 * x.count(2) + 1000 * x.count(3), 3101);
        due("nor the day", x.warmth(0), 3);
        due("nor the notebook", x.fits(0), 1);
        due("an image", x.image(), 1);
        due("undo", x.undo(), 1);
        due("another object has none", new KnockPipes().undo(), STATE);
        x = new KnockPipes();
        due("an image of nothing", x.image(), 0);
        for (int i = 0; i < 10; i++) x.noise(0, 0, 0, 1);
        due("undo to nothing", x.undo(), 0);
        due("no noises", x.of(0, 0), NONE);
        for (int i = 0; i < 10; i++) x.noise(0, 0, 0, 1);
        x.image();
        due("undo to ten", x.undo(), 10);
        due("ten", x.noise(0, 0, 0, 1), FULL);
    }

    static void imageOfDays() {
        says(31, "THE IMAGE: all that there is (but THE IMAGE and THE TRACE)");
        for (int what = 0; what < 3; what++) {
            KnockPipes x = in("grow 10 k=1");
            for (int kind = 1; kind <= 3; kind++) x.noise(kind, 0, 1, 40);
            x.day(what, at(5));
            x.image();
            long was = knocking(x, what);
            due("it knocks", was != 0 ? 1 : 0, 1);
            due("another day", x.day(what, at(20, 21)), 1);
            due("it knocks otherwise", knocking(x, what) == was ? 1 : 0, 0);
            due("undo", x.undo(), 3);
            due("it knocks as it did", knocking(x, what), was);
            due("as it was", x.day(what, 0), 1);
            x.undo();
            due("again", x.day(what, 0), 1);
        }
    }

    static void imageOfTapeAndHouses() {
        says(31, "All is as THE IMAGE");
        KnockPipes x = new KnockPipes();
        x.noise(0, 0, 0, 40);
        x.day(0, at(0));
        feed(x, "warm 10;grow 20 t=");
        x.image();
        due("the tape goes on", house(x, "0"), 0);
        due("house holds", x.knocks(0, 0, 0) * 100 + x.told(0), 2010);
        x.undo();
        due("no house", x.count(1), 0);
        due("no numbers of it", x.told(0), 3);
        due("nor clauses", x.knocks(0, 0, 0), 0);
        due("its bytes", x.count(3), 18);
        due("the tape goes on otherwise", house(x, "39"), 0);
        due("another house", x.knocks(0, 0, 0) * 100 + x.told(0), 10);
        x.image();
        for (int i = 1; i < 5; i++) due("house", house(x, "air 1" + i + ";hold 9 t<9"), i);
        due("full", x.house(), FULL);
        due("holds", x.knocks(0, 0, 1), 9);
        x.undo();
        due("one house", x.count(1), 1);
        int[] told = {10, 1, 1, 4, 1};
        for (int what = 0; what < 5; what++) due("told(" + what + ")", x.told(what), told[what]);
        due("holds no more", x.knocks(0, 0, 1), 1);
        due("the second number", house(x, "air 7"), 1);
        x.undo();
        for (int i = 0; i < 15; i++) x.feed(0, 8);
        x.undo();
        due("the tape is empty", x.count(3), 0);
        due("room on it", x.feed(0, 8), 8);
    }

    static void imageOfNoises() {
        says(31, "how many NOISES");
        KnockPipes x = new KnockPipes();
        x.noise(5, 9, 8, 33);
        x.noise(1, 2, 3, 4);
        x.still(1, true);
        due("image", x.image(), 2);
        x.still(0, true);
        x.still(1, false);
        for (int i = 2; i < 10; i++) x.noise(2, 0, 9, 40);
        due("ten", x.count(0), 10);
        x.still(9, true);
        due("undo", x.undo(), 2);
        due("two", x.count(0), 2);
        due("no third", x.of(2, 0), NONE);
        int[][] of = {{5, 9, 8, 33, 0}, {1, 2, 3, 4, 1}};
        for (int i = 0; i < 2; i++) for (int what = 0; what < 5; what++) due("of", x.of(i, what), of[i][what]);
        for (int i = 2; i < 10; i++) {
            due("a new one", x.noise(0, 0, 0, 1), i);
            due("is not still", x.of(i, 4), 0);
        }
        due("undo", x.undo(), 2);
        x.noise(6, 7, 7, 7);
        due("another third", x.of(2, 0) * 1000 + x.of(2, 1) * 100 + x.of(2, 2) * 10 + x.of(2, 3), 6777);
    }

    static void imageOfNotebook() {
        says(31, "THE IMAGE: all that there is");
        KnockPipes x = new KnockPipes();
        x.noise(0, 0, 0, 1);
        for (int i = 0; i < 12; i++) x.note(i % 2 == 0 ? 0 : 9, i % 3 == 0 ? 0 : 1, i % 4 == 0 ? 1 : 0);
        int fits = 0;
        for (int i = 0; i < 12; i++) {
            boolean heard = i % 2 == 0 && i % 3 == 0;
            if (heard == (i % 4 == 0)) fits |= 1 << i;
        }
        due("fits", x.fits(0), fits);
        x.image();
        due("clear", x.clear(), 12);
        for (int i = 0; i < 5; i++) x.note(5, 5, 5);
        due("fits none", x.fits(0), 0);
        x.undo();
        due("twelve rows", x.count(2), 12);
        due("full", x.note(0, 0, 0), FULL);
        due("fits as they did", x.fits(0), fits);
        due("clear", x.clear(), 12);
        x.image();
        x.note(0, 0, 1);
        x.undo();
        due("no rows", x.clear(), 0);
    }

    static void imageButTheTrace() {
        says(30, "(but THE IMAGE and THE TRACE)");
        KnockPipes x = ofAllKinds();
        x.act(0, 0, 1);
        x.image();
        due("the trace stays", x.trace(0) + 10 * x.count(4), 11);
        x.act(1, 2, 1);
        due("undo", x.undo(), 7);
        int[] bodies = {3, 2, 11, 1, NONE};
        for (int i = 0; i < 5; i++) due("that of the latest act, trace(" + i + ")", x.trace(i), bodies[i]);
        due("and its bodies", x.count(4), 4);
    }

    static void imageStays() {
        says(31, "STATE: there is none");
        KnockPipes x = new KnockPipes();
        x.image();
        for (int i = 0; i < 5; i++) {
            x.noise(0, 0, 0, 1);
            due("undo, time and again", x.undo(), 0);
            due("no noises", x.count(0), 0);
        }
        x.noise(0, 0, 0, 1);
        due("another image", x.image(), 1);
        x.noise(0, 0, 0, 1);
        due("undo to that", x.undo(), 1);
        due("what comes behind the image is not in it", x.noise(0, 0, 0, 1) + x.undo(), 2);
    }

    // ---- 32 count

    static void countAsked() {
        says(32, "0 NOISES, 1 HOUSES, 2 rows of the NOTEBOOK, 3 bytes of THE TAPE");
        KnockPipes x = new KnockPipes();
        for (int what = 0; what < 5; what++) due("count(" + what + ")", x.count(what), 0);
        for (int what : new int[] {-1, 5, 6}) due("count(" + what + ")", x.count(what), NONE);
        for (int no : WILD) due("count(" + no + ")", x.count(no), NONE);
        for (int i = 0; i < 6; i++) house(x, "air 1");
        // the sixth was refused, and its five bytes stay
        feed(x, "x".repeat(114));
        for (int i = 0; i < 11; i++) x.noise(0, 0, 0, 1);
        for (int i = 0; i < 13; i++) x.note(0, 0, 0);
        int[] most = {10, 5, 12, 119};
        for (int what = 0; what < 4; what++) due("count(" + what + ")", x.count(what), most[what]);
        due("one more byte", x.feed(0, 1), 120);
        due("count(3)", x.count(3), 120);
        for (int i = 0; i < 10; i++) x.still(i, true);
        due("still ones are noises", x.count(0), 10);
    }

    static void countOfBodies() {
        says(32, "4 bodies that ran in the latest act() (all, kept or not). NONE.");
        KnockPipes x = ofAllKinds();
        due("no act", x.count(4), 0);
        int[][] ran = {{1, 2, 3}, {2, 3, 4}, {1, 3, 4}, {1, 2, 4}, {2, 3, 7}, {2, 4, 5}, {1, 3, 5}};
        for (int kind = 0; kind < 7; kind++) {
            for (int act = 0; act < 3; act++) {
                x.act(kind, act, -3);
                due("act " + act + " of kind " + kind, x.count(4), ran[kind][act]);
            }
        }
        x.act(7, 0, 0);
        due("a refused one", x.count(4), 0);
    }
}
