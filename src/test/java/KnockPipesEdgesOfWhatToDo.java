/** The edges of promises 20 to 26, sentence by sentence: what to do about the noises, and what would be if. */
public final class KnockPipesEdgesOfWhatToDo extends Asking {
    public static void main(String[] args) {
        leastAsked();
        leastRefusals();
        leastNoMoreThan();
        leastFewest();
        leastNotStillNow();
        easedAsked();
        easedByC();
        easedKinds();
        easedOneAtLeast();
        easedTwoWays();
        partedAsked();
        partedMinutes();
        partedAlone();
        quietAsked();
        quietKinds();
        quietStill();
        movedAsked();
        movedOfSeveral();
        movedWhole();
        movedByE();
        olderWithoutRows();
        olderByMinutes();
        olderGreatest();
        olderNoFewer();
        olderBoilerAlone();
        harmAsked();
        harmOfKnocks();
        end("edges of what to do");
    }

    // ---- 20 least

    static void leastAsked() {
        says(20, "LEAST at a PLACE by n, as bits. NONE; BAD.");
        KnockPipes x = new KnockPipes();
        for (int noises = 0; noises < 2; noises++) {
            for (int place : new int[] {-1, 10, 11}) due("place " + place, x.least(place, 0), NONE);
            for (int n : new int[] {-1, 100, 101}) due("n " + n, x.least(0, n), BAD);
            for (int no : WILD) {
                due("place " + no, x.least(no, 0), NONE);
                due("n " + no, x.least(0, no), BAD);
            }
            for (int place : new int[] {0, 9}) {
                due("by 0 at " + place, x.least(place, 0), noises);
                due("by 99 at " + place, x.least(place, 99), 0);
            }
            x.noise(0, 0, 0, 40);
        }
    }

    static void leastRefusals() {
        says(20, "NONE; BAD");
        KnockPipes x = new KnockPipes();
        for (int place : new int[] {-1, 10}) {
            due("place " + place + " ahead of n -1", x.least(place, -1), NONE);
            due("place " + place + " ahead of n 100", x.least(place, 100), NONE);
        }
        due("no noises, by 0", x.least(0, 0), 0);
    }

    static void leastNoMoreThan() {
        says(20, "so that no more than n are HEARD there in the whole DAY");
        KnockPipes x = in("air 1");
        x.noise(0, 0, 0, 4);
        // heard four times a day, at the places 0 to 3
        for (int place = 0; place < 5; place++) {
            due("by 5 at " + place, x.least(place, 5), 0);
            due("by 4 at " + place, x.least(place, 4), 0);
            due("by 3 at " + place, x.least(place, 3), place < 4 ? 1 : 0);
            due("by 0 at " + place, x.least(place, 0), place < 4 ? 1 : 0);
        }
        says(20, "LEAST at a PLACE by n (0 .. 99)");
        x = new KnockPipes();
        x.noise(2, 0, 9, 40);
        for (int offs = 9; offs <= 12; offs++) {
            long tap = 0;
            for (int i = 0; i < offs; i++) tap |= at(2 * i);
            x.day(1, tap);
            due("heard", x.heard(0, -1), 9 * offs);
            due("by 99 of " + 9 * offs, x.least(0, 99), offs <= 11 ? 0 : 1);
            due("by 98 of " + 9 * offs, x.least(0, 98), offs <= 10 ? 0 : 1);
        }
        x = new KnockPipes();
        x.noise(2, 0, 5, 40);
        x.day(1, 0x5555555555L);
        due("heard", x.heard(0, -1), 100);
        due("by 99 of 100", x.least(0, 99), 1);
    }

    static void leastFewest() {
        says(20, "of several sets the least as bits");
        KnockPipes x = new KnockPipes();
        x.day(1, at(0));
        for (int v : new int[] {0, 2, 2, 9, 5, 5, 1, 4, 0, 9}) x.noise(2, 0, v, 40);
        // 37 in all
        int[][] due = {{37, 0}, {36, 1 << 1}, {35, 1 << 1}, {34, 1 << 3}, {33, 1 << 3}, {32, 1 << 3}, {28, 1 << 3},
            {27, 0b1010}, {26, 0b1010}, {25, 0b11000}, {23, 0b11000}, {22, 0b1000001000}, {19, 0b1000001000},
            {18, 0b111000}, {0, 0b1011111110}};
        for (int[] by : due) due("by " + by[0], x.least(0, by[0]), by[1]);
        x = new KnockPipes();
        for (int i = 0; i < 10; i++) x.noise(0, 0, i, 40);
        for (int left = 0; left <= 10; left++) due("by " + 4 * left, x.least(0, 4 * left), (1 << 10 - left) - 1);
    }

    static void leastNotStillNow() {
        says(20, "the fewest NOISES that are not STILL now to make STILL");
        KnockPipes x = new KnockPipes();
        x.day(1, at(0));
        for (int v : new int[] {3, 3, 3, 7}) x.noise(2, 0, v, 40);
        x.still(0, true);
        due("the first is still", x.least(0, 12), 0b0010);
        due("by none", x.least(0, 0), 0b1110);
        x.still(3, true);
        due("the last, too", x.least(0, 6), 0);
        due("by 5", x.least(0, 5), 0b0010);
        due("by none", x.least(0, 0), 0b0110);
        x.still(1, true);
        x.still(2, true);
        due("all are still", x.least(0, 0), 0);
        due("and nothing was stilled by asking", x.of(1, 4) + x.still(1, false) + x.of(1, 4), 2);
        due("that one", x.least(0, 0), 0b0010);
        due("it is not still by that", x.of(1, 4), 0);
    }

    // ---- 21 eased

    static void easedAsked() {
        says(21, "EASED by c at a PLACE. NONE; BAD.");
        KnockPipes x = in("hear 40");
        for (int noises = 0; noises < 2; noises++) {
            for (int place : new int[] {-1, 10, 11}) {
                due("place " + place, x.eased(place, 0), NONE);
                due("place " + place + " ahead of c 41", x.eased(place, 41), NONE);
                due("place " + place + " ahead of c -1", x.eased(place, -1), NONE);
            }
            for (int c : new int[] {-1, 41, 42}) due("c " + c, x.eased(0, c), BAD);
            for (int no : WILD) {
                due("place " + no, x.eased(no, 0), NONE);
                due("c " + no, x.eased(0, no), BAD);
            }
            due("by 0", x.eased(0, 0), 0);
            due("by 1", x.eased(0, 1), noises * 9);
            due("by 40", x.eased(0, 40), noises * 9);
            due("at 9", x.eased(9, 40), 0);
            x.noise(2, 0, 9, 40);
            x.day(1, at(0));
        }
        x = in("hear 40;air 0");
        x.noise(2, 0, 9, 40);
        x.day(1, at(0));
        due("at 9", x.eased(9, 1), 9);
    }

    static void easedByC() {
        says(21, "EASED by c (0 .. 40): how many less are HEARD at a PLACE in the DAY");
        for (int hear = 1; hear <= 20; hear++) {
            KnockPipes x = in("hear " + hear);
            x.noise(2, 4, 3, 20);
            x.noise(2, 4, 2, 40);
            x.day(1, at(0, 2, 38));
            for (int c : new int[] {0, 1, 19, 20, 39, 40}) {
                int less = (Math.max(1, 20 - c) < hear ? 9 : 0) + (Math.max(1, 40 - c) < hear ? 6 : 0);
                due("by " + c + ", hear " + hear, x.eased(4, c), less);
            }
            due("just heard, hear " + hear, x.eased(4, 20 - hear), 0);
            if (hear > 1) due("no more, hear " + hear, x.eased(4, 21 - hear), 9);
        }
    }

    static void easedKinds() {
        says(21, "if LOUDNESS of all STRUCK ones (all under them, too) were c less");
        KnockPipes x = in("hear 40;warm 9;grow 9 k=1|k=4");
        for (int kind = 0; kind < 7; kind++) x.noise(kind, 0, 1, 40);
        x.day(0, minutes(0, 9));
        x.day(1, at(0));
        x.day(2, at(5));
        for (int kind = 0; kind < 7; kind++) due("it knocks, kind " + kind, x.harm(kind) > 0 ? 1 : 0, 1);
        due("by 0, knocking in minute 0, too", x.eased(0, 0), 0);
        due("struck once, gurgling twice", x.eased(0, 1), 3);
        x.day(1, at(39));
        due("gurgling in minute 39", x.eased(0, 1), 1);
        due("by 0", x.eased(0, 0), 0);
        x.day(1, at(0));
        x.still(2, true);
        due("struck is still", x.eased(0, 1), 2);
        x.still(5, true);
        due("both are still", x.eased(0, 40), 0);
        x.still(2, false);
        due("gurgling is still", x.eased(0, 40), 1);
        due("as loud as ever", x.of(2, 3), 40);
        due("and as loud there", x.loud(2, 0, 0), 40);
    }

    static void easedOneAtLeast() {
        says(21, "were c less (1 at least)");
        for (int loudness : new int[] {1, 2, 39, 40}) {
            KnockPipes x = in("hear 1");
            x.noise(2, 0, 9, loudness);
            x.day(1, at(0));
            for (int c = 0; c <= 40; c++) due(loudness + " by " + c + ", hear 1", x.eased(0, c), 0);
            house(x, "hear 2");
            for (int c = 0; c <= 40; c++) {
                due(loudness + " by " + c + ", hear 2", x.eased(0, c), loudness >= 2 && loudness - c < 2 ? 9 : 0);
            }
        }
    }

    static void easedTwoWays() {
        says(21, "how many less are HEARD at a PLACE in the DAY");
        // one off: 20 by air, by iron 14
        KnockPipes x = in("air 1;iron 1;hear 14");
        x.noise(2, 4, 5, 21);
        x.day(1, at(0));
        due("by air, 14 left", x.eased(5, 6), 0);
        due("by air, 13 left", x.eased(5, 7), 5);
        x = in("air 9;iron 1;hear 14");
        x.noise(2, 4, 5, 21);
        x.day(1, at(0));
        due("by iron, 15 left", x.eased(5, 0), 0);
        due("by iron, 14 left", x.eased(5, 1), 0);
        due("by iron, 13 left", x.eased(5, 2), 5);
        due("not heard at all", x.eased(9, 40), 0);
    }

    // ---- 22 parted

    static void partedAsked() {
        says(22, "NO: no such NOISES, or one");
        KnockPipes x = new KnockPipes();
        due("no noises", x.parted(0, 1), NO);
        x.noise(0, 0, 0, 1);
        due("one noise", x.parted(0, 1), NO);
        due("one noise", x.parted(1, 0), NO);
        due("itself", x.parted(0, 0), NO);
        x.noise(0, 0, 0, 1);
        due("alike", x.parted(0, 1), 0);
        due("alike", x.parted(1, 0), 0);
        due("itself", x.parted(1, 1), NO);
        for (int no : new int[] {-1, 2, 3}) {
            due("parted(0, " + no + ")", x.parted(0, no), NO);
            due("parted(" + no + ", 0)", x.parted(no, 0), NO);
            due("none, twice", x.parted(no, no), NO);
        }
        for (int no : WILD) {
            due("parted(0, " + no + ")", x.parted(0, no), NO);
            due("parted(" + no + ", 1)", x.parted(no, 1), NO);
        }
        due("none and none", x.parted(-1, 2), NO);
        for (int i = 2; i < 10; i++) x.noise(0, 0, i, 1);
        due("the last", x.parted(0, 9), at(0, 10, 20, 30, 9, 19, 29, 39));
        due("behind the last", x.parted(0, 10), NO);
        due("NO is no row of bits", NO < 0 ? 1 : 0, 1);
    }

    static void partedMinutes() {
        says(22, "PARTED: of two NOISES, each ALONE: MINUTES in which just one of them KNOCKS, as bits");
        KnockPipes x = new KnockPipes();
        x.noise(3, 0, 1, 1);
        x.noise(6, 9, 1, 40);
        due("neither by both", x.parted(0, 1), ALL);
        x.day(2, at(0, 39));
        due("by turns", x.parted(1, 0), ALL);
        x.noise(3, 0, 2, 1);
        due("one of them in minutes 0 and 39", x.parted(0, 2), at(0, 39));
        x.noise(2, 0, 9, 1);
        x.noise(5, 0, 1, 1);
        due("neither ever", x.parted(2, 3), 0);
        x.day(1, at(20));
        due("9 times and once", x.parted(3, 4), at(20));
    }

    static void partedAlone() {
        says(22, "of two NOISES, each ALONE");
        for (int still = 0; still < 4; still++) {
            KnockPipes x = in("hear 99");
            x.noise(0, 0, 0, 1);
            x.noise(0, 0, 9, 1);
            x.still(0, (still & 1) != 0);
            x.still(1, (still & 2) != 0);
            due("whatever is still", x.parted(0, 1), at(0, 9, 10, 19, 20, 29, 30, 39));
            due("still as it was", x.of(0, 4) + 2 * x.of(1, 4), still);
        }
    }

    // ---- 23 quiet

    static void quietAsked() {
        says(23, "QUIET: what 0 whether, 1 by which NOISES not, as bits. NONE.");
        KnockPipes x = new KnockPipes();
        for (int noises = 0; noises < 2; noises++) {
            for (int what : new int[] {-1, 2, 3}) due("quiet(" + what + ")", x.quiet(what), NONE);
            for (int no : WILD) due("quiet(" + no + ")", x.quiet(no), NONE);
            due("whether", x.quiet(0), 1 - noises);
            due("which", x.quiet(1), noises);
            if (noises == 0) x.noise(0, 0, 0, 1);
        }
        for (int i = 1; i < 9; i++) x.noise(2, 0, 0, 1);
        x.noise(0, 0, 9, 1);
        due("the first and the last", x.quiet(1), 0b1000000001);
    }

    static void quietKinds() {
        says(23, "QUIET: whether, nothing being on in the whole DAY, no NOISE KNOCKS (1; else 0); which ones do, as bits");
        KnockPipes plain = in("warm 9;grow 90 t<50;cool 0");
        for (int v = 0; v < 10; v++) plain.noise(v % 5 + 1, 0, v / 5, 1);
        for (int round = 0; round < 2; round++) {
            due("none of v 0 or 1", plain.quiet(1), 0);
            for (int what = 0; what < 3; what++) plain.day(what, 0x5555555555L);
        }
        KnockPipes x = in("warm 9;grow 9 k=1|k=4|n=9;hold 9 n=8&t<30;cool 9;hear 99");
        for (int i = 0; i < 6; i++) x.noise(i < 1 ? 5 : i, 0, 9, 1);
        for (int round = 0; round < 2; round++) {
            due("no kind but two knocks so", x.quiet(0), 1);
            due("by none", x.quiet(1), 0);
            for (int what = 0; what < 3; what++) x.day(what, ALL - 2);
        }
        x.noise(6, 0, 9, 1);
        due("next door does", x.quiet(0), 0);
        due("next door does", x.quiet(1), 1 << 6);
        x.noise(6, 0, 0, 1);
        due("and another", x.quiet(1), 3 << 6);
        x.noise(0, 0, 9, 1);
        due("one that may in minute 39 alone", x.quiet(1), 7 << 6);
        x.noise(0, 0, 9, 1);
        due("and one that never may", x.quiet(1), 7 << 6);
        for (int what = 0; what < 3; what++) due("the day stays", x.day(what, 0), 39);
    }

    static void quietStill() {
        says(23, "no NOISE KNOCKS (1; else 0)");
        KnockPipes x = new KnockPipes();
        x.noise(6, 0, 1, 1);
        x.noise(0, 0, 1, 1);
        x.still(0, true);
        due("not by the other", x.quiet(0), 0);
        due("by the other", x.quiet(1), 0b10);
        x.still(1, true);
        due("both are still", x.quiet(0), 1);
        due("by none", x.quiet(1), 0);
        x.still(0, false);
        due("by the one", x.quiet(1), 0b01);
        x.day(0, ALL);
        x.day(2, ALL);
        due("whatever is on", x.quiet(1), 0b01);
        due("that is on still", x.warmth(39), 99);
        due("and it knocks not by that", x.knocks(0, 5, 2), 0);
    }

    // ---- 24 moved

    static void movedAsked() {
        says(24, "MOVED: where a NOISE should be, for a PLACE. NONE.");
        KnockPipes x = new KnockPipes();
        due("no noises", x.moved(0, 0), NONE);
        x.noise(0, 5, 0, 36);
        due("far from 0", x.moved(0, 0), 9);
        due("far from 9", x.moved(0, 9), 0);
        due("it is where it was", x.of(0, 1), 5);
        for (int noise : new int[] {-1, 1, 2}) due("noise " + noise, x.moved(noise, 0), NONE);
        for (int place : new int[] {-1, 10, 11}) due("place " + place, x.moved(0, place), NONE);
        for (int no : WILD) {
            due("noise " + no, x.moved(no, 0), NONE);
            due("place " + no, x.moved(0, no), NONE);
        }
        for (int i = 1; i < 9; i++) x.noise(0, 5, 0, 40);
        due("behind the last", x.moved(9, 0), NONE);
        x.noise(0, 5, 0, 36);
        due("the last", x.moved(9, 0), 9);
    }

    static void movedOfSeveral() {
        says(24, "the PLACE at which a NOISE should be so that the fewest are HEARD at a told PLACE in the whole DAY (of several the least)");
        KnockPipes x = in("air 4");
        int[][] loudness = {{40, 0}, {37, 0}, {36, 9}, {33, 9}, {32, 8}, {5, 2}, {4, 1}, {1, 1}};
        for (int[] by : loudness) {
            x.noise(0, 0, 0, by[0]);
            due("loudness " + by[0] + " for 0", x.moved(x.count(0) - 1, 0), by[1]);
        }
        due("loudness 1 for 1", x.moved(7, 1), 0);
        due("loudness 5 for 2", x.moved(5, 2), 0);
        due("loudness 5 for 1", x.moved(5, 1), 3);
        due("loudness 36 for 8", x.moved(2, 8), 0);
        x = new KnockPipes();
        x.noise(2, 7, 9, 40);
        due("it never knocks", x.moved(0, 7), 0);
        x.noise(0, 7, 0, 1);
        x.still(1, true);
        due("a still one", x.moved(1, 0), 0);
        x.still(1, false);
        due("no longer still", x.moved(1, 0), 1);
    }

    static void movedWhole() {
        says(24, "the fewest are HEARD at a told PLACE in the whole DAY");
        // for v 0, two minutes of four are left where p is 6, and one where p is 8
        KnockPipes x = in("air 0;hold 0 p=3&t=9|p=6&t<11|p=8&t<21;grow 0 p=6&t>39|p=3&t=39");
        x.noise(0, 0, 0, 40);
        due("fewest at 8", x.moved(0, 0), 8);
        x.noise(0, 0, 9, 40);
        due("that of 9: three at 6, two at 8, two at 3", x.moved(1, 5), 3);
    }

    static void movedByE() {
        says(24, "MOVED: the PLACE at which a NOISE should be");
        for (int place = 0; place < 10; place++) {
            KnockPipes x = in("air 0;grow 0 p=" + place);
            x.noise(0, 9 - place, 4, 40);
            due("where E holds", x.moved(0, 0), place);
            due("it is where it was", x.of(0, 1), 9 - place);
            due("and knocks as it did", knocking(x, 0), at(4, 14, 24, 34));
        }
        KnockPipes x = in("air 0;grow 10 p>4;grow 20 p=7;hold 30 p=7;cool 0");
        x.noise(1, 9, 0, 40);
        x.day(0, minutes(0, 4));
        due("where it grows none", x.moved(0, 0), 0);
        x = in("air 0;grow 10 p<7;grow 20 p>6;hold 9 p=7;cool 0");
        x.noise(1, 9, 0, 40);
        x.day(0, minutes(0, 4));
        due("where it holds most", x.moved(0, 0), 7);
        x.noise(1, 0, 0, 40);
        due("the others stay", x.moved(0, 0), 7);
        due("its length stays", x.knocks(0, 4, 0), 30);
    }

    // ---- 25 older

    static void olderWithoutRows() {
        says(25, "the greatest n (0 .. 40)");
        KnockPipes x = new KnockPipes();
        due("nothing at all", x.older(), 40);
        x.noise(0, 0, 0, 10);
        x.day(0, ALL);
        due("no rows", x.older(), 40);
        x.note(0, 0, 2);
        due("no row is heard so", x.older(), 40);
        x.note(0, 0, 1);
        due("a row that the boiler does not touch", x.older(), 40);
        x.note(4, 30, 1);
        x.day(0, at(0));
        due("a row that the boiler touched no more", x.older(), 40);
    }

    /** A noise that is heard at place 4 when it is warm, and only then: by iron 10 - 5 - 4 are left, by air none. */
    static KnockPipes warmOnly(int v, String cool) {
        KnockPipes x = in("warm 1;cool " + cool);
        x.noise(0, 0, v, 10);
        return x;
    }

    static void olderByMinutes() {
        says(25, "had the BOILER been on n MINUTES later all the time (what is beyond MINUTE 39 is lost)");
        for (int from = 0; from < 40; from++) {
            for (int m = from % 10; m < 40; m += 10) {
                KnockPipes x = warmOnly(m % 10, "0");
                x.day(0, at(from));
                x.note(4, m, 1);
                // up to minute m the boiler may come on; a row that is not heard so now binds nothing
                due("on in " + from + ", heard in " + m, x.older(), from <= m ? m - from : 40);
            }
        }
        KnockPipes x = warmOnly(9, "0");
        x.day(0, at(0));
        x.note(4, 39, 1);
        due("39 later it is in minute 39, 40 later lost", x.older(), 39);
        x.day(0, at(39));
        due("1 later it is lost", x.older(), 0);
        x.day(0, at(0, 39));
        due("the one in minute 0 is not", x.older(), 39);
        x.clear();
        x.note(4, 39, 0);
        due("what is not heard so", x.older(), 40);
        due("the day stays", x.day(0, 0), 2);
        x = warmOnly(0, "1");
        x.day(0, at(39));
        x.note(4, 0, 0);
        due("what is lost does not come in ahead", x.older(), 40);
        x.day(0, at(0));
        x.clear();
        x.note(4, 0, 1);
        due("off ahead of what was minute 0", x.older(), 0);
    }

    static void olderGreatest() {
        says(25, "OLDER: the greatest n (0 .. 40) such that");
        KnockPipes x = warmOnly(0, "1");
        x.note(4, 10, 1);
        x.day(0, at(10, 8));
        due("not by 1, but by 2", x.older(), 2);
        x.day(0, at(10, 8, 2));
        due("nor by 3 to 7, but by 8", x.older(), 8);
        x.day(0, at(10, 0));
        due("by 10", x.older(), 10);
        x.day(0, at(10, 11));
        due("by 0 alone", x.older(), 0);
    }

    static void olderNoFewer() {
        says(25, "no fewer rows of the NOTEBOOK would be HEARD so than are now");
        KnockPipes x = warmOnly(0, "1");
        x.day(0, at(10));
        x.note(4, 10, 1);
        x.note(4, 20, 1);
        due("now the one, then the other", x.older(), 10);
        x.note(4, 30, 1);
        due("or the third", x.older(), 20);
        x.note(4, 30, 0);
        due("now two; then the first two are not", x.older(), 10);
        x.note(4, 0, 0);
        due("now three", x.older(), 10);
        x.still(0, true);
        due("nothing is heard now, nor then", x.older(), 40);
        x.still(0, false);
        due("no longer still", x.older(), 10);
        for (int i = 0; i < 7; i++) x.note(4, 10, 1);
        due("twelve rows", x.older(), 0);
    }

    static void olderBoilerAlone() {
        says(25, "had the BOILER been on n MINUTES later");
        KnockPipes x = new KnockPipes();
        x.noise(2, 0, 4, 40);
        x.noise(3, 0, 0, 40);
        x.day(1, at(0));
        x.day(2, at(1));
        x.note(0, 1, 5);
        due("tap and pump stay", x.older(), 40);
        due("and stay", x.day(1, 0) * 10 + x.day(2, 0), 11);
    }

    // ---- 26 harm

    static void harmAsked() {
        says(26, "HARM. NONE.");
        KnockPipes x = new KnockPipes();
        due("no noises", x.harm(0), NONE);
        for (int i = 0; i < 10; i++) {
            due("not yet there", x.harm(i), NONE);
            x.noise(0, 0, i, i + 1);
            due("harm", x.harm(i), 4 * (i + 1));
        }
        for (int no : new int[] {-1, 10, 11}) due("harm(" + no + ")", x.harm(no), NONE);
        for (int no : WILD) due("harm(" + no + ")", x.harm(no), NONE);
    }

    static void harmOfKnocks() {
        says(26, "HARM of a NOISE: KNOCKS in the DAY times LOUDNESS");
        KnockPipes x = in("hear 99");
        x.noise(6, 0, 0, 40);
        x.noise(2, 0, 9, 40);
        x.noise(3, 0, 0, 1);
        due("in every minute", x.harm(0), 1600);
        due("in none", x.harm(1), 0);
        x.day(1, 0x5555555555L);
        due("9 times in 20 minutes", x.harm(1), 7200);
        x.day(2, at(0));
        due("in minute 0", x.harm(2), 1);
        x.day(2, at(39));
        due("in minute 39", x.harm(2), 1);
        x.still(1, true);
        due("a still one", x.harm(1), 0);
    }
}
