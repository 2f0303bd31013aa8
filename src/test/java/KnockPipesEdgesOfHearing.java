/** The edges of promises 14 to 19, sentence by sentence: the notebook, what fits it, by what odds, the next try. */
public final class KnockPipesEdgesOfHearing extends Asking {
    /** Nothing is heard but at the place of the noise. */
    static final String NARROW = "air 99;iron 99";

    public static void main(String[] args) {
        noteAsked();
        noteRefusals();
        noteFull();
        cleared();
        fitsAsked();
        fitsAlone();
        fitsJustSo();
        oddsAsked();
        oddsWithoutAny();
        oddsInLowestTerms();
        whichAsked();
        whichOfSeveral();
        allFitOfNone();
        allFitTheFewest();
        allFitWhatever();
        worst();
        worstOfSeveral();
        nextAsked();
        nextOfSeveral();
        nextWithin();
        nextAlike();
        end("edges of hearing");
    }

    // ---- 14 note, 15 clear

    static void noteAsked() {
        says(14, "A row of the NOTEBOOK: how many there are. NONE: place, minute; BAD; FULL.");
        KnockPipes x = new KnockPipes();
        for (int place : new int[] {-1, 10, 11}) due("place " + place, x.note(place, 0, 0), NONE);
        for (int minute : new int[] {-1, 40, 41}) due("minute " + minute, x.note(0, minute, 0), NONE);
        for (int n : new int[] {-1, 100, 101}) due("n " + n, x.note(0, 0, n), BAD);
        for (int no : WILD) {
            due("place " + no, x.note(no, 0, 0), NONE);
            due("minute " + no, x.note(0, no, 0), NONE);
            due("n " + no, x.note(0, 0, no), BAD);
        }
        due("there are none", x.count(2), 0);
        int[][] rows = {{0, 0, 0}, {9, 0, 0}, {0, 39, 0}, {0, 0, 99}, {9, 39, 99}, {8, 38, 98}, {1, 1, 1}};
        for (int i = 0; i < rows.length; i++) {
            due("note", x.note(rows[i][0], rows[i][1], rows[i][2]), i + 1);
            due("rows", x.count(2), i + 1);
        }
        due("place -1", x.note(-1, 0, 0), NONE);
        due("n 100", x.note(0, 0, 100), BAD);
        due("rows", x.count(2), 7);
        says(14, "so many (0 .. 99) were HEARD");
        x = in("hear 0");
        x.noise(0, 0, 0, 40);
        for (int n : new int[] {0, 1, 2, 98, 99}) x.note(0, 0, n);
        due("just that of 1 fits", x.fits(0), 0b00010);
    }

    static void noteRefusals() {
        says(14, "NONE: place, minute; BAD; FULL");
        KnockPipes x = new KnockPipes();
        for (int round = 0; round < 2; round++) {
            due("place ahead of n", x.note(10, 0, 100), NONE);
            due("place ahead of n", x.note(-1, 0, -1), NONE);
            due("minute ahead of n", x.note(0, 40, -1), NONE);
            due("minute ahead of n", x.note(0, -1, 100), NONE);
            for (int i = 0; i < 12; i++) x.note(0, 0, 0);
            due("place ahead of FULL", x.note(10, 0, 0), NONE);
            due("minute ahead of FULL", x.note(0, 40, 0), NONE);
            due("n ahead of FULL", x.note(0, 0, 100), BAD);
            due("n ahead of FULL", x.note(0, 0, -1), BAD);
        }
        due("rows", x.count(2), 12);
    }

    static void noteFull() {
        says(14, "rows told by hand, 12 at most");
        KnockPipes x = new KnockPipes();
        x.noise(0, 5, 5, 40);
        for (int i = 1; i <= 12; i++) {
            due("row " + i, x.note(5, 5, i == 11 || i == 12 ? 1 : 2), i);
            due("rows", x.count(2), i);
        }
        due("a thirteenth", x.note(5, 5, 1), FULL);
        due("a fourteenth", x.note(5, 5, 1), FULL);
        due("rows", x.count(2), 12);
        due("the eleventh and the twelfth are there", x.fits(0), 0b110000000000);
        due("cleared", x.clear(), 12);
        due("room again", x.note(5, 5, 1), 1);
        due("just that", x.fits(0), 1);
    }

    static void cleared() {
        says(15, "The NOTEBOOK is empty then: how many rows it had.");
        KnockPipes x = new KnockPipes();
        x.noise(0, 0, 0, 40);
        for (int rows : new int[] {0, 1, 11, 12, 0}) {
            for (int i = 0; i < rows; i++) x.note(0, 0, 1);
            due("fits", Integer.bitCount(x.fits(0)), rows);
            due("clear", x.clear(), rows);
            due("rows", x.count(2), 0);
            due("fits none", x.fits(0), 0);
            due("clear again", x.clear(), 0);
        }
        due("the noise stays", x.count(0), 1);
    }

    // ---- 16 fits

    static void fitsAsked() {
        says(16, "FITS of a NOISE, as bits of rows. NONE.");
        KnockPipes x = new KnockPipes();
        due("no noises", x.fits(0), NONE);
        x.note(0, 0, 1);
        due("no noises, a row", x.fits(0), NONE);
        x.clear();
        for (int i = 0; i < 10; i++) {
            due("not yet there", x.fits(i), NONE);
            x.noise(0, 0, i, 40);
            due("no rows", x.fits(i), 0);
        }
        for (int no : new int[] {-1, 10, 11}) due("fits(" + no + ")", x.fits(no), NONE);
        for (int no : WILD) due("fits(" + no + ")", x.fits(no), NONE);
        for (int i = 0; i < 12; i++) x.note(0, i, 1);
        for (int i = 0; i < 10; i++) due("its own minutes, " + i, x.fits(i), 1 << i | (i < 2 ? 1 << i + 10 : 0));
    }

    static void fitsAlone() {
        says(16, "ALONE: a NOISE that is not STILL (whatever it is now), all others being STILL");
        for (int still = 0; still < 4; still++) {
            KnockPipes x = new KnockPipes();
            x.noise(0, 0, 0, 40);
            x.noise(0, 0, 0, 40);
            x.still(0, (still & 1) != 0);
            x.still(1, (still & 2) != 0);
            for (int n = 0; n < 3; n++) x.note(0, 0, n);
            due("heard now", x.heard(0, 0), 2 - Integer.bitCount(still));
            due("fits of 0", x.fits(0), 0b010);
            due("fits of 1", x.fits(1), 0b010);
            due("still as they were", x.of(0, 4) + 2 * x.of(1, 4), still);
        }
    }

    static void fitsJustSo() {
        says(16, "FITS of a NOISE: rows that are HEARD so");
        KnockPipes x = in("air 1;iron 9;hear 6");
        x.noise(2, 0, 5, 10);
        x.day(1, at(7));
        for (int n : new int[] {4, 5, 6}) x.note(0, 8, n);
        x.note(4, 8, 5);
        x.note(5, 8, 5);
        x.note(5, 8, 0);
        x.note(0, 7, 0);
        x.note(0, 9, 0);
        x.note(0, 9, 5);
        due("so many, there, then", x.fits(0), 0b011101010);
        x.note(4, 8, 5);
        due("a row twice", x.fits(0), 0b1011101010);
        house(x, "hear 99");
        due("by another house", x.fits(0), 0b0011100000);
        x.day(1, 0);
        due("on another day", x.fits(0), 0b0011100000);
    }

    // ---- 17 odds

    static void oddsAre(String what, KnockPipes x, int noise, int above, int below) {
        due(what + ", above the line, noise " + noise, x.odds(noise, 0), above);
        due(what + ", below the line, noise " + noise, x.odds(noise, 1), below);
    }

    static void oddsAsked() {
        says(17, "ODDS; part 0 above, 1 below the line. NONE.");
        KnockPipes x = new KnockPipes();
        due("no noises", x.odds(0, 0), NONE);
        x.noise(0, 0, 0, 40);
        x.noise(0, 0, 1, 40);
        x.note(0, 0, 1);
        x.note(0, 2, 0);
        oddsAre("2 of 3", x, 0, 2, 3);
        oddsAre("1 of 3", x, 1, 1, 3);
        for (int part : new int[] {-1, 2, 3}) due("part " + part, x.odds(0, part), NONE);
        for (int noise : new int[] {-1, 2, 3}) due("noise " + noise, x.odds(noise, 0), NONE);
        for (int no : WILD) {
            due("part " + no, x.odds(0, no), NONE);
            due("noise " + no, x.odds(no, 1), NONE);
        }
    }

    static void oddsWithoutAny() {
        says(17, "(0 by 1 without any)");
        KnockPipes x = new KnockPipes();
        x.noise(0, 0, 0, 40);
        x.noise(0, 0, 0, 40);
        oddsAre("no rows", x, 0, 0, 1);
        x.note(0, 0, 2);
        oddsAre("no fits", x, 0, 0, 1);
        oddsAre("no fits", x, 1, 0, 1);
        x.noise(0, 0, 1, 40);
        x.note(0, 1, 1);
        oddsAre("none of one", x, 0, 0, 1);
        oddsAre("one of one", x, 2, 1, 1);
        x.note(0, 1, 1);
        oddsAre("none of two", x, 0, 0, 1);
        oddsAre("two of two", x, 2, 1, 1);
    }

    /** The greatest number that divides both, by trying all. */
    static int shared(int a, int b) {
        int shared = 1;
        for (int by = 2; by <= b; by++) if (a % by == 0 && b % by == 0) shared = by;
        return shared;
    }

    static void oddsInLowestTerms() {
        says(17, "its FITS by those of all NOISES together (0 by 1 without any), in lowest terms");
        for (int a = 0; a <= 12; a++) {
            for (int b = 0; a + b <= 12; b++) {
                KnockPipes x = new KnockPipes();
                x.noise(0, 0, 0, 40);
                x.noise(0, 0, 1, 40);
                for (int i = 0; i < a; i++) x.note(0, 0, 1);
                for (int i = 0; i < b; i++) x.note(0, 1, 1);
                if (a + b == 0) continue;
                oddsAre(a + " and " + b, x, 0, a / shared(a, a + b), (a + b) / shared(a, a + b));
                oddsAre(a + " and " + b, x, 1, b / shared(b, a + b), (a + b) / shared(b, a + b));
            }
        }
        KnockPipes x = new KnockPipes();
        for (int i = 0; i < 10; i++) x.noise(0, 0, 0, 40);
        for (int i = 0; i < 12; i++) x.note(0, 0, 1);
        oddsAre("12 of 120", x, 0, 1, 10);
        oddsAre("12 of 120", x, 9, 1, 10);
        x.still(9, true);
        x.still(0, true);
        oddsAre("whatever is still", x, 9, 1, 10);
        x = new KnockPipes();
        for (int i = 0; i < 10; i++) x.noise(0, 0, i == 0 ? 0 : 1, 40);
        for (int i = 0; i < 8; i++) x.note(0, 0, 1);
        for (int i = 0; i < 4; i++) x.note(0, 2, 0);
        oddsAre("12 of 48", x, 0, 1, 4);
        oddsAre("4 of 48", x, 1, 1, 12);
    }

    // ---- 18 which

    static void whichAsked() {
        says(18, "WHICH (what 0), ALL FIT (1), WORST (2); -5. NONE.");
        KnockPipes x = new KnockPipes();
        for (int noises = 0; noises < 2; noises++) {
            for (int what : new int[] {-1, 3, 4}) due("NONE ahead of -5, which(" + what + ")", x.which(what), NONE);
            for (int no : WILD) due("which(" + no + ")", x.which(no), NONE);
            due("which(0)", x.which(0), noises == 0 ? NOBODY : 0);
            due("which(1)", x.which(1), 0);
            due("which(2)", x.which(2), noises == 0 ? NOBODY : 0);
            x.noise(0, 0, 0, 40);
        }
        x = new KnockPipes();
        x.noise(0, 0, 0, 10);
        x.noise(0, 0, 1, 11);
        x.noise(0, 0, 2, 10);
        x.note(0, 2, 1);
        due("the third fits", x.which(0), 2);
        due("the set of it", x.which(1), 0b100);
        due("the second is worst", x.which(2), 1);
    }

    static void whichOfSeveral() {
        says(18, "WHICH: that with the most FITS (of several the least; -5: there are no NOISES)");
        KnockPipes x = new KnockPipes();
        x.note(0, 0, 0);
        due("no noises", x.which(0), NOBODY);
        x.clear();
        for (int i = 0; i < 10; i++) x.noise(0, 0, i, 40);
        due("no rows", x.which(0), 0);
        x.note(0, 0, 2);
        due("no fits", x.which(0), 0);
        x.note(0, 9, 1);
        due("the last has one", x.which(0), 9);
        x.note(0, 4, 1);
        due("the fifth has one, too", x.which(0), 4);
        x.note(0, 19, 1);
        due("the last has two", x.which(0), 9);
        x.still(9, true);
        due("whatever is still", x.which(0), 9);
        x.note(0, 0, 1);
        x.note(0, 10, 1);
        due("the first has two, too", x.which(0), 0);
    }

    static void allFitOfNone() {
        says(18, "-5: none");
        KnockPipes x = new KnockPipes();
        due("no noises, no rows", x.which(1), 0);
        x.note(0, 0, 0);
        due("no noises, nothing heard", x.which(1), 0);
        x.note(0, 0, 1);
        due("no noises, one heard", x.which(1), NOBODY);
        x.noise(0, 0, 0, 40);
        due("heard and not heard", x.which(1), NOBODY);
        x.clear();
        due("no rows: the empty set", x.which(1), 0);
        x.note(0, 0, 1);
        due("one heard", x.which(1), 1);
        x.note(0, 10, 0);
        due("but not then", x.which(1), NOBODY);
        x.clear();
        x.note(0, 1, 0);
        due("nothing heard", x.which(1), 0);
        x.note(0, 0, 2);
        due("more than there are", x.which(1), NOBODY);
        x.clear();
        for (int i = 1; i < 10; i++) x.noise(0, 0, 0, 40);
        x.note(0, 0, 10);
        due("all ten", x.which(1), 1023);
        x.note(0, 30, 10);
        due("all ten, twice", x.which(1), 1023);
        x.note(0, 30, 9);
        due("ten and nine", x.which(1), NOBODY);
        x.clear();
        x.note(0, 0, 11);
        due("eleven of ten", x.which(1), NOBODY);
    }

    static void allFitTheFewest() {
        says(18, "ALL FIT: the set of NOISES with which, these being not STILL and all others STILL, all rows are HEARD so;"
            + " of several that of the fewest, then the least as bits");
        KnockPipes x = new KnockPipes();
        x.day(1, at(0));
        for (int v : new int[] {1, 1, 2, 3, 3, 0, 9, 8, 4, 5}) x.noise(2, 0, v, 40);
        int[][] due = {{0, 0}, {1, 0b1}, {2, 0b100}, {3, 0b1000}, {4, 1 << 8}, {5, 1 << 9}, {6, 0b11000}, {7, 0b100001000},
            {8, 1 << 7}, {9, 1 << 6}, {10, 0b1000001}, {36, 0b1111011111}, {35, 0b1111011101}, {37, NOBODY}};
        for (int[] row : due) {
            x.note(0, 1, row[0]);
            due("heard " + row[0], x.which(1), row[1]);
            x.clear();
        }
        for (int i = 0; i < 12; i++) x.note(0, 1, 7);
        due("twelve rows", x.which(1), 0b100001000);
    }

    static void allFitWhatever() {
        says(18, "these being not STILL and all others STILL");
        for (int still = 0; still < 8; still++) {
            KnockPipes x = in(NARROW);
            x.noise(0, 0, 0, 40);
            x.noise(0, 0, 0, 40);
            x.noise(0, 3, 0, 40);
            for (int i = 0; i < 3; i++) x.still(i, (still >> i & 1) != 0);
            x.note(0, 0, 1);
            x.note(3, 10, 1);
            due("one at 0, and that at 3", x.which(1), 0b101);
            x.note(0, 20, 2);
            due("one and two at 0", x.which(1), NOBODY);
            due("still as they were", x.of(0, 4) + 2 * x.of(1, 4) + 4 * x.of(2, 4), still);
        }
    }

    static void worst() {
        says(18, "WORST: the NOISE with the most HARM (of several the least; -5)");
        KnockPipes x = new KnockPipes();
        due("no noises", x.which(2), NOBODY);
        for (int i = 0; i < 10; i++) x.noise(0, 0, i, i == 9 ? 12 : i == 5 ? 11 : 10);
        due("the last", x.which(2), 9);
        x.still(9, true);
        due("the sixth", x.which(2), 5);
        x.still(5, true);
        due("of several the first", x.which(2), 0);
        x.still(0, true);
        due("of several the second", x.which(2), 1);
    }

    static void worstOfSeveral() {
        says(18, "the most HARM (of several the least; -5)");
        KnockPipes x = new KnockPipes();
        x.noise(3, 0, 0, 40);
        x.noise(3, 0, 0, 40);
        due("none does harm", x.which(2), 0);
        x.noise(0, 0, 0, 1);
        due("the third does some", x.which(2), 2);
        x.day(2, at(0));
        due("40 by the first and the second", x.which(2), 0);
        x.still(0, true);
        due("the first is still", x.which(2), 1);
        x.still(1, true);
        x.still(2, true);
        due("all are still", x.which(2), 0);
    }

    // ---- 19 next

    static void nextAsked() {
        says(19, "100 times the PLACE, and the MINUTE; -5: there are no NOISES");
        KnockPipes x = new KnockPipes();
        due("no noises", x.next(), NOBODY);
        x.note(0, 0, 0);
        due("no noises, a row", x.next(), NOBODY);
        x.noise(0, 9, 9, 40);
        due("one noise", x.next(), 0);
        x.still(0, true);
        due("one noise, still", x.next(), 0);
        x = in(NARROW + ";grow 0 t<39");
        x.noise(0, 9, 9, 40);
        x.noise(0, 9, 8, 40);
        due("the last place and minute", x.next(), 939);
        x = in(NARROW + ";grow 0 t<39");
        x.noise(0, 0, 9, 40);
        x.noise(0, 0, 8, 40);
        due("the first place, the last minute", x.next(), 39);
        x = in(NARROW + ";grow 0 t>0");
        x.noise(0, 9, 0, 40);
        x.noise(0, 9, 8, 40);
        due("the last place, the first minute", x.next(), 900);
    }

    static void nextOfSeveral() {
        says(19, "of several the least PLACE, then MINUTE");
        KnockPipes x = new KnockPipes();
        for (int i = 0; i < 10; i++) {
            x.noise(0, 5, 5, 40);
            due("all are alike everywhere", x.next(), 0);
        }
        x = in(NARROW + ";grow 0 v=9&t<39");
        x.noise(0, 1, 0, 40);
        x.noise(0, 0, 9, 40);
        due("place 0 in minute 39 ahead of place 1 in minute 0", x.next(), 39);
        x = in(NARROW);
        x.noise(0, 7, 7, 40);
        x.noise(0, 7, 3, 40);
        x.noise(0, 6, 9, 40);
        x.noise(0, 6, 8, 40);
        // each alone is told from three others, in any of these
        due("the least place, and its least minute", x.next(), 608);
    }

    static void nextWithin() {
        says(19, "PLACES 0 .. 9 in a row");
        // both reach 0 .. 9, and one of them alone would reach 10
        KnockPipes x = in("air 3;iron 9");
        x.noise(0, 0, 0, 28);
        x.noise(0, 0, 0, 40);
        due("apart nowhere in the row", x.next(), 0);
        x.noise(0, 0, 0, 27);
        due("apart at 9", x.next(), 900);
        // both reach 9 .. 0, and one of them alone would reach -1
        x = in("air 3;iron 9");
        x.noise(0, 9, 0, 28);
        x.noise(0, 9, 0, 40);
        due("apart nowhere in the row", x.next(), 0);
        // apart in minutes 40 and on, were there any
        x = in(NARROW + ";grow 0 t<40");
        x.noise(0, 0, 0, 40);
        x.noise(0, 0, 1, 40);
        due("apart in no minute of the day", x.next(), 0);
    }

    static void nextAlike() {
        says(19, "TRY: the PLACE and the MINUTE for which the most NOISES that are HEARD alike there (each ALONE) are fewest");
        int[][] vs = {{1, 3, 4, 1}, {1, 3, 3, 1}, {1, 3, 0, 1}};
        int[] want = {509, 509, 209};
        for (int i = 0; i < vs.length; i++) {
            for (int still = 0; still < 16; still += 5) {
                KnockPipes x = in(NARROW);
                x.noise(2, 2, vs[i][0], 40);
                x.noise(2, 5, vs[i][1], 40);
                x.noise(2, 5, vs[i][2], 40);
                x.noise(2, 7, vs[i][3], 40);
                for (int j = 0; j < 4; j++) x.still(j, (still >> j & 1) != 0);
                x.day(1, at(8, 20));
                due("by " + i, x.next(), want[i]);
            }
        }
        // 1, 2, 3, 4 apart at 8; three alike at 1
        KnockPipes x = in(NARROW);
        for (int v = 1; v <= 4; v++) x.noise(2, 8, v, 40);
        x.noise(2, 1, 9, 40);
        x.day(1, at(38));
        due("all apart", x.next(), 839);
        x.noise(2, 1, 8, 40);
        due("four apart and two alike, by two apart and four alike", x.next(), 839);
    }
}
