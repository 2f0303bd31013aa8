/** The edges of promises 1 to 6, sentence by sentence: a new object, days, the tape, houses, warmth. */
public final class KnockPipesEdgesOfHouses extends Asking {
    static final String[] WORDS = {"grow", "hold", "warm", "cool", "iron", "air", "hear"};
    static final int GROW_AND_HOLD = 2;
    static final String DIGITS = "0123456789", SUBJECTS = "npkvt", SIGNS = "<=>";
    /** A house with all that a house may hold. */
    static final String RICH = "grow 10 !(n=0|p<10&k>2)&v=99|t<5;hold 7 !!!!!t>39;warm 1;cool 20;iron 0;air 99;hear 3";

    public static void main(String[] args) {
        newObject();
        constants();
        newObjectHasNoClauses();
        calls512();
        dayRows();
        dayBits();
        dayAnswers();
        feedNumbers();
        feedBytes();
        feedFull();
        clauses();
        words();
        blanks();
        digits();
        zeros();
        eithers();
        boths();
        factors();
        tests();
        numbersOfNoises();
        placesOfNoises();
        kindsOfNoises();
        vsOfNoises();
        minutesOfTests();
        open();
        closed();
        faults();
        nextBytes();
        emptyTape();
        houses();
        fullHouses();
        newestHouse();
        told();
        lastTold();
        warmthMinutes();
        warmthAhead();
        warmthBounds();
        end("edges of days and houses");
    }

    // ---- 1 a new object

    static void newObject() {
        says(1, "Nothing is on, no NOISES.");
        KnockPipes x = new KnockPipes();
        for (int what = 0; what < 5; what++) due("count(" + what + ")", x.count(what), 0);
        for (int what = 0; what < 5; what++) due("of(0, " + what + ")", x.of(0, what), NONE);
        due("knocks(0, 0, 2)", x.knocks(0, 0, 2), NONE);
        due("heard(0, -1)", x.heard(0, -1), 0);
        for (int m = 0; m < 40; m++) due("warmth(" + m + ")", x.warmth(m), 0);
        for (int what = 0; what < 3; what++) due("day(" + what + ", 0)", x.day(what, 0), 0);
        says(1, "three rows of bits by MINUTES: 0 BOILER, 1 TAP, 2 PUMP (all 0 at first)");
        x = in("grow 10 k=1");
        for (int kind = 1; kind <= 6; kind++) x.noise(kind, 0, 1, 40);
        for (int i = 0; i < 5; i++) due("of nothing on, noise " + i, x.harm(i), 0);
        due("the pump is off all the day", knocking(x, 5), ALL);
        KnockPipes other = new KnockPipes();
        due("another object has no noises", other.count(0), 0);
        due("nor that house", other.count(1), 0);
    }

    static void constants() {
        says(1, "public static final int NONE = -1, BAD = -2, STATE = -3, FULL = -4");
        due("NONE", KnockPipes.NONE, -1);
        due("BAD", KnockPipes.BAD, -2);
        due("STATE", KnockPipes.STATE, -3);
        due("FULL", KnockPipes.FULL, -4);
        says(1, "`NO = Long.MIN_VALUE`: There is no such number.");
        due("NO", KnockPipes.NO, Long.MIN_VALUE);
    }

    static void newObjectHasNoClauses() {
        says(1, "without one there are no CLAUSES");
        KnockPipes x = new KnockPipes();
        x.day(0, ALL);
        x.noise(0, 0, 0, 40);
        due("no E holds, so it knocks", knocking(x, 0), at(0, 10, 20, 30));
        for (int m = 0; m < 40; m++) {
            due("length", x.knocks(0, m, 0), 0);
            due("hold", x.knocks(0, m, 1), 1);
        }
    }

    static void calls512() {
        says(1, "An object is used for at most 512 calls after it has been made");
        KnockPipes x = new KnockPipes();
        for (int i = 0; i < 510; i++) x.act(0, 0, i);
        due("call 511", x.noise(0, 3, 5, 10), 0);
        due("call 512", x.heard(3, -1), 4);
        x = new KnockPipes();
        for (int i = 0; i < 511; i++) due("feed or full", x.feed(0, 8), i < 15 ? 8 * i + 8 : FULL);
        due("call 512", x.house(), -10);
        x = new KnockPipes();
        for (int i = 0; i < 511; i++) due("image", x.image(), 0);
        due("call 512", x.undo(), 0);
    }

    // ---- 2 day

    static void dayRows() {
        says(2, "what 0 BOILER, 1 TAP, 2 PUMP");
        for (int what = 0; what < 3; what++) {
            KnockPipes x = in("grow 10 k=1");
            x.noise(1, 0, 1, 40);
            x.noise(2, 0, 1, 40);
            x.noise(3, 0, 1, 40);
            due("day(" + what + ")", x.day(what, at(5)), 0);
            // 3 in minute 5, and then down by 1 in each of 6, 7, 8
            due("only the boiler warms, row " + what, knocking(x, 0), what == 0 ? at(5, 6, 7, 8) : 0);
            due("only the tap strikes, row " + what, knocking(x, 1), what == 1 ? at(6) : 0);
            due("only the pump hums, row " + what, knocking(x, 2), what == 2 ? at(5) : 0);
        }
        KnockPipes x = new KnockPipes();
        for (int what : new int[] {-1, 3, 4, LEAST_INT, MOST_INT}) {
            due("day(" + what + ", 1)", x.day(what, 1), NONE);
            due("NONE ahead of BAD, day(" + what + ", -1)", x.day(what, -1), NONE);
        }
        for (int what = 0; what < 3; what++) due("none came on", x.day(what, 0), 0);
    }

    static void dayBits() {
        says(2, "becomes a row of bits (0 .. 39)");
        KnockPipes x = in("warm 1;cool 99");
        long[] rows = {0, at(0), at(39), at(0, 39), ALL, ALL - 1, ALL >> 1};
        for (long bits : rows) {
            due("day(0, " + bits + ")", x.day(0, bits) >= 0 ? 1 : 0, 1);
            due("in minute 0", x.warmth(0), bits & 1);
            due("in minute 39", x.warmth(39) > 0 ? 1 : 0, bits >> 39);
        }
        x.day(0, at(7));
        for (int bit = 40; bit < 64; bit++) {
            due("bit " + bit, x.day(0, 1L << bit), BAD);
            due("bit " + bit + " beside others", x.day(0, 1L << bit | at(0, 39)), BAD);
        }
        for (long bits : new long[] {ALL + 1, ALL + 2, -1, -2, Long.MIN_VALUE, Long.MIN_VALUE + 1, Long.MAX_VALUE}) {
            for (int what = 0; what < 3; what++) due("day(" + what + ", " + bits + ")", x.day(what, bits), BAD);
        }
        due("the row stays", x.day(0, 0), 1);
        due("and so do the others", x.day(1, 0) + x.day(2, 0), 0);
    }

    static void dayAnswers() {
        says(2, "in how many MINUTES it was on");
        KnockPipes x = new KnockPipes();
        for (int what = 0; what < 3; what++) {
            due("at first", x.day(what, at(39)), 0);
            due("one", x.day(what, ALL - 1), 1);
            due("all but one", x.day(what, ALL), 39);
            due("all", x.day(what, 0), 40);
            due("none", x.day(what, 0), 0);
        }
    }

    // ---- 3 feed

    static void feedNumbers() {
        says(3, "BAD: n not 1 .. 8");
        KnockPipes x = new KnockPipes();
        for (int n : new int[] {0, 9, -1, 10, 16, LEAST_INT, MOST_INT}) due("feed(1, " + n + ")", x.feed(1, n), BAD);
        due("nothing came", x.count(3), 0);
        int size = 0;
        for (int n = 1; n <= 8; n++) {
            size += n;
            due("feed(1, " + n + ")", x.feed(1, n), size);
            due("bytes", x.count(3), size);
        }
        due("feed(1, 0)", x.feed(1, 0), BAD);
        due("feed(1, 9)", x.feed(1, 9), BAD);
        due("nothing came", x.count(3), 36);
    }

    static void feedBytes() {
        says(3, "The n lowest bytes of w, the highest first, come behind THE TAPE's");
        String text = "warm 42;iron 71";
        for (int n = 1; n <= 8; n++) {
            KnockPipes x = new KnockPipes();
            for (int at = 0; at < text.length(); at += n) {
                int size = Math.min(n, text.length() - at);
                // what stands above the n lowest bytes is no part of them
                long above = size < 8 ? 0x7F6E5D4C3B2A1908L << 8 * size : 0;
                due("feed", x.feed(above | word(text.substring(at, at + size)), size), at + size);
            }
            due("by " + n + " at a time", x.house(), 0);
            due("warm", x.told(0), 42);
            due("iron", x.told(2), 71);
        }
        says(3, "bytes, 120 at most");
        // bytes are 0 .. 255: none of them is another without its highest bit
        for (int b = 128; b < 256; b++) {
            KnockPipes x = new KnockPipes();
            due("a high byte", x.feed((long) b << 56 | word("arm 42"), 8), 8);
            due("byte " + b + " begins no word", x.house(), -10);
            x.feed(word("warm 4"), 6);
            x.feed(b, 1);
            due("byte " + b + " is no digit", x.house(), -16);
        }
    }

    static void feedFull() {
        says(3, "how many it has. BAD: n not 1 .. 8; FULL.");
        for (int n = 1; n <= 8; n++) {
            KnockPipes x = new KnockPipes();
            for (int i = 0; i < 14; i++) x.feed(0, 8);
            if (n < 8) due("120 less n", x.feed(0, 8 - n), 120 - n);
            for (int more = n + 1; more <= 8; more++) due("one too many and more", x.feed(0, more), FULL);
            due("nothing came", x.count(3), 120 - n);
            due("feed(.., 9) is BAD ahead of FULL", x.feed(0, 9), BAD);
            due("just enough", x.feed(0, n), 120);
            for (int more = 1; more <= 8; more++) due("full", x.feed(0, more), FULL);
            due("feed(.., 0) is BAD ahead of FULL", x.feed(0, 0), BAD);
            due("feed(.., 9) is BAD ahead of FULL", x.feed(0, 9), BAD);
            due("120", x.count(3), 120);
            due("house", x.house(), -10);
            due("room again", x.feed(0, 8), 8);
        }
        // all 120 bytes are there: the last is the only one that could tell
        faultAt(119, "grow 1 " + "p=1|".repeat(27) + "p=1;x");
        faultAt(119, "grow 1 " + "p=1|".repeat(27) + "p=12x");
        String full = "grow 10 " + "t<1|".repeat(26) + "t=39|v=1";
        due("its size", full.length(), 120);
        KnockPipes x = in(full);
        x.noise(0, 0, 1, 40);
        x.day(0, at(1));
        due("its last test", x.knocks(0, 1, 0), 3);
    }

    // ---- 4 house

    static void clauses() {
        says(4, "CLAUSES, 10 at most, with ; between");
        for (int many = 1; many <= 10; many++) {
            String text = "air 1;".repeat(many - 1) + "air 2";
            stands(text);
            faultAt(many == 10 ? text.length() : text.length() + 1, text + ";");
            faultAt(many == 10 ? text.length() : text.length() + 1, text + ";;");
            faultAt(many == 10 ? text.length() : text.length() + 1, text + "; air 3");
            faultAt(text.length(), text + ",air 3");
            faultAt(text.length(), text + "air 3");
        }
        faultAt("air 1;".length() * 10 - 1, "air 1;".repeat(10) + "air 2");
        faultAt(0, ";air 1");
        String ten = "grow 5 t<9;".repeat(9);
        KnockPipes x = in(ten + "grow 1 t<9");
        x.noise(0, 0, 0, 40);
        x.day(0, at(0, 1));
        due("all ten grow", x.knocks(0, 1, 0), 6 * 46 / 10);
        x = in("hold 5 t<9;".repeat(9) + "hold 1 t<9");
        x.noise(0, 0, 0, 40);
        due("all ten hold", x.knocks(0, 8, 1), 46);
        due("none holds", x.knocks(0, 9, 1), 1);
    }

    static void words() {
        says(4, "grow n E; hold n E; warm n; cool n; iron n; air n; hear n");
        for (int i = 0; i < WORDS.length; i++) {
            String word = WORDS[i];
            String text = word + (i < GROW_AND_HOLD ? " 12 t<3" : " 12");
            stands(text);
            stands("air 1;" + text);
            for (int size = 0; size < word.length(); size++) {
                faultAt(size, word.substring(0, size));
                faultAt(size, word.substring(0, size) + "#" + text.substring(size));
                faultAt(size, word.substring(0, size) + text.substring(size).toUpperCase());
                faultAt(6 + size, "air 1;" + word.substring(0, size) + " ");
            }
            faultAt(word.length(), word + "s 12");
            // an E where there is none, and none where there is one
            faultAt(word.length() + 3, word + (i < GROW_AND_HOLD ? " 12" : " 12 t<3"));
            faultAt(word.length() + 3, word + (i < GROW_AND_HOLD ? " 12;air 1" : " 12 ;air 1"));
        }
        // a word that began as one can't go on as another
        faultAt(1, "gold 1 t<1");
        faultAt(1, "wool 1");
        faultAt(2, "heow 1");
        faultAt(1, "hair 1");
        faultAt(3, "hole 1");
        faultAt(1, "aron 1");
    }

    static void blanks() {
        says(4, "one blank ahead of each part behind the word");
        for (String blank : new String[] {"", "  ", "\t", "\n", "_"}) {
            int off = blank.equals("  ") ? 1 : 0;
            faultAt(4 + off, "warm" + blank + "1");
            faultAt(3 + off, "air" + blank + "1");
            faultAt(4 + off, "grow" + blank + "5 t<1");
            faultAt(6 + off, "hold 5" + blank + "t<1");
        }
        faultAt(0, " warm 1");
        faultAt(6, "warm 1 ");
        faultAt(6, "warm 1 ;air 1");
        faultAt(7, "warm 1; air 1");
        faultAt(10, "grow 5 t<1 ");
        faultAt(8, "grow 5 t <1");
        faultAt(9, "grow 5 t< 1");
        faultAt(10, "grow 5 t<1 |t<2");
        faultAt(11, "grow 5 t<1| t<2");
        faultAt(8, "grow 5 ! t<1");
        faultAt(8, "grow 5 ( t<1)");
        faultAt(11, "grow 5 (t<1 )");
    }

    static void digits() {
        says(4, "n 1 or 2 digits");
        for (int i = 0; i < WORDS.length; i++) {
            String head = WORDS[i] + " ";
            String tail = i < GROW_AND_HOLD ? " t<3" : "";
            faultAt(head.length(), head + tail);
            stands(head + "7" + tail);
            stands(head + "77" + tail);
            faultAt(head.length() + 2, head + "777" + tail);
            for (char no : new char[] {'/', ':', '-', '+', 'a'}) {
                faultAt(head.length(), head + no + tail);
                faultAt(head.length() + 1, head + "7" + no + tail);
            }
        }
        for (int n = 0; n <= 99; n++) {
            KnockPipes x = in("iron " + n);
            due("iron", x.told(2), n);
        }
        faultAt(7, "iron 100");
    }

    static void zeros() {
        says(4, "no 0 ahead of another");
        for (int i = 0; i < WORDS.length; i++) {
            String head = WORDS[i] + " ";
            String tail = i < GROW_AND_HOLD ? " t<3" : "";
            stands(head + "0" + tail);
            stands(head + "10" + tail);
            stands(head + "90" + tail);
            for (int d = 0; d <= 9; d++) faultAt(head.length() + 1, head + "0" + d + tail);
            faultAt(head.length() + 2, head + "100" + tail);
        }
        for (int d = 0; d <= 9; d++) faultAt(10, "grow 5 t<0" + d);
        stands("grow 5 t<0");
        stands("grow 5 t<10");
        stands("grow 0 t<0");
    }

    /** Whether an E holds for a noise of number 0, place 4, kind 3, v 6 in minute 5. */
    static boolean holds(String e) {
        KnockPipes x = in("hold 9 " + e);
        x.noise(3, 4, 6, 40);
        int hold = x.knocks(0, 5, 1);
        due("hold of 9 or none", hold == 9 || hold == 1 ? 1 : 0, 1);
        return hold == 9;
    }

    static void holds(String e, boolean want) {
        due("whether " + e + " holds", holds(e) ? 1 : 0, want ? 1 : 0);
    }

    static final String YES = "t=5", NOT = "t=6";

    static void eithers() {
        says(4, "E: T, or T|E");
        holds(YES, true);
        holds(NOT, false);
        holds(YES + "|" + YES, true);
        holds(YES + "|" + NOT, true);
        holds(NOT + "|" + YES, true);
        holds(NOT + "|" + NOT, false);
        holds(NOT + "|" + NOT + "|" + YES, true);
        holds(NOT + "|" + NOT + "|" + NOT, false);
        // the first letter, sign and number, beside others
        holds("n<0|" + YES, true);
        holds(YES + "|n<0", true);
        holds("n<0|n<0|" + NOT, false);
        faultAt(7, "grow 5 |t<1");
        faultAt(11, "grow 5 t<1|");
        faultAt(11, "grow 5 t<1||t<1");
        faultAt(11, "grow 5 t<1|;");
        stands("grow 5 " + "t<1|".repeat(27) + "t<1");
    }

    static void boths() {
        says(4, "T: F, or F&T");
        holds(YES + "&" + YES, true);
        holds(YES + "&" + NOT, false);
        holds(NOT + "&" + YES, false);
        holds(NOT + "&" + NOT, false);
        holds(YES + "&" + YES + "&" + YES, true);
        holds(YES + "&" + YES + "&" + NOT, false);
        // & binds more than |
        holds(YES + "|" + YES + "&" + NOT, true);
        holds(NOT + "&" + YES + "|" + YES, true);
        holds(NOT + "&" + NOT + "|" + NOT + "&" + YES, false);
        holds(NOT + "&" + YES + "|" + YES + "&" + YES, true);
        faultAt(7, "grow 5 &t<1");
        faultAt(11, "grow 5 t<1&");
        faultAt(11, "grow 5 t<1&&t<1");
        faultAt(11, "grow 5 t<1&|t<1");
        faultAt(11, "grow 5 t<1|&t<1");
        stands("grow 5 " + "t<1&".repeat(27) + "t<1");
    }

    static void factors() {
        says(4, "F: !F, (E), or a TEST");
        holds("!" + YES, false);
        holds("!" + NOT, true);
        holds("!!" + YES, true);
        holds("!!!" + YES, false);
        holds("!!!!!" + NOT, true);
        holds("!n<0", true);
        holds("!!n<0", false);
        holds("(" + YES + ")", true);
        holds("(" + NOT + ")", false);
        holds("((((("+ YES + ")))))", true);
        holds("!(" + YES + ")", false);
        holds("(!" + YES + ")", false);
        holds("(" + YES + "|" + YES + ")&" + NOT, false);
        holds(NOT + "&(" + YES + "|" + YES + ")", false);
        // ! binds more than & and |
        holds("!" + NOT + "&" + NOT, false);
        holds("!(" + NOT + "&" + NOT + ")", true);
        holds("!" + YES + "|" + YES, true);
        holds("!(" + YES + "|" + YES + ")", false);
        String deep = "(" + NOT + "|" + YES + "&";
        holds(NOT + "|" + YES + "&" + deep + deep + deep + deep + deep + YES + ")))))", true);
        holds(NOT + "|" + YES + "&" + deep + deep + deep + deep + deep + NOT + ")))))", false);
        faultAt(8, "grow 5 ()");
        faultAt(8, "grow 5 !");
        faultAt(8, "grow 5 !)");
        faultAt(8, "grow 5 !&t<1");
        faultAt(7, "grow 5 )");
        faultAt(11, "grow 5 (t<1");
        faultAt(11, "grow 5 (t<1;air 1");
        faultAt(10, "grow 5 t<1)");
        faultAt(12, "grow 5 (t<1))");
        faultAt(10, "grow 5 t<1!t<1");
        faultAt(10, "grow 5 t<1(t<1)");
        faultAt(12, "grow 5 (t<1)t<1");
    }

    static void tests() {
        says(4, "n or p or k or v or t, one of < = >, a number likewise");
        for (int a = 0; a < SUBJECTS.length(); a++) {
            for (int s = 0; s < SIGNS.length(); s++) {
                String test = "grow 5 " + SUBJECTS.charAt(a) + SIGNS.charAt(s);
                faultAt(8, test.substring(0, 8));
                faultAt(9, test);
                for (String n : new String[] {"0", "9", "10", "99"}) stands(test + n);
                faultAt(9, test + "=1");
                faultAt(9, test + "<1");
                faultAt(9, test + ">1");
                faultAt(9, test + "t");
                faultAt(9, test + "-1");
                faultAt(10, test + "00");
                faultAt(10, test + "01");
                faultAt(11, test + "100");
                faultAt(11, test + "999");
            }
        }
        faultAt(7, "grow 5 5>t");
        faultAt(7, "grow 5 <5");
        faultAt(8, "grow 5 nt<5");
        faultAt(8, "grow 5 t5");
    }

    /** Whether a test of one sign holds where this value stands against that number. */
    static boolean holds(char sign, int value, int number) {
        return sign == '<' ? value < number : sign == '=' ? value == number : value > number;
    }

    static final int[] NUMBERS = {0, 1, 4, 5, 6, 8, 9, 10, 99};

    static void numbersOfNoises() {
        says(4, "of a NOISE n its number");
        for (char sign : SIGNS.toCharArray()) {
            for (int number : NUMBERS) {
                KnockPipes x = in("hold 9 n" + sign + number);
                for (int i = 0; i < 10; i++) x.noise(3, 7, 7, 40);
                for (int i = 0; i < 10; i++) {
                    due("n" + sign + number + " of " + i, x.knocks(i, 7, 1), holds(sign, i, number) ? 9 : 1);
                }
            }
        }
    }

    static void placesOfNoises() {
        says(4, "p its PLACE");
        for (char sign : SIGNS.toCharArray()) {
            for (int number : NUMBERS) {
                KnockPipes x = in("hold 9 p" + sign + number);
                for (int i = 0; i < 10; i++) x.noise(0, 9 - i, 0, 40);
                for (int i = 0; i < 10; i++) {
                    due("p" + sign + number + " of " + (9 - i), x.knocks(i, 39, 1), holds(sign, 9 - i, number) ? 9 : 1);
                }
            }
        }
    }

    static void kindsOfNoises() {
        says(4, "k its KIND");
        for (char sign : SIGNS.toCharArray()) {
            for (int number : new int[] {0, 1, 2, 3, 4, 5, 6, 7, 99}) {
                KnockPipes x = in("hold 9 k" + sign + number);
                for (int kind = 0; kind < 7; kind++) x.noise(6 - kind, 9, 9, 40);
                for (int i = 0; i < 7; i++) {
                    due("k" + sign + number + " of " + (6 - i), x.knocks(i, 0, 1), holds(sign, 6 - i, number) ? 9 : 1);
                }
            }
        }
    }

    static void vsOfNoises() {
        says(4, "v its number v");
        for (char sign : SIGNS.toCharArray()) {
            for (int number : NUMBERS) {
                KnockPipes x = in("hold 9 v" + sign + number);
                for (int i = 0; i < 10; i++) x.noise(0, 0, 9 - i, 40);
                for (int i = 0; i < 10; i++) {
                    due("v" + sign + number + " of " + (9 - i), x.knocks(i, 0, 1), holds(sign, 9 - i, number) ? 9 : 1);
                }
            }
        }
    }

    static void minutesOfTests() {
        says(4, "t the MINUTE");
        for (char sign : SIGNS.toCharArray()) {
            for (int number : new int[] {0, 1, 2, 19, 20, 38, 39, 40, 41, 63, 64, 65, 98, 99}) {
                KnockPipes x = in("hold 9 t" + sign + number);
                x.noise(0, 0, 0, 40);
                for (int m = 0; m < 40; m++) {
                    due("t" + sign + number + " in " + m, x.knocks(0, m, 1), holds(sign, m, number) ? 9 : 1);
                }
            }
        }
    }

    static void open() {
        says(4, "At most 5 of ! and ( are open");
        for (int many = 1; many <= 6; many++) {
            for (int which = 0; which < 1 << many; which++) {
                StringBuilder e = new StringBuilder();
                for (int i = 0; i < many; i++) e.append((which >> i & 1) == 0 ? '!' : '(');
                e.append("t<1").append(")".repeat(Integer.bitCount(which)));
                if (many <= 5) stands("grow 5 " + e);
                else faultAt(7 + 5, "grow 5 " + e);
                if (many == 5) faultAt(7 + 5, "grow 5 " + e.substring(0, 5));
                if (many == 6) faultAt(7 + 5, "grow 5 " + e.substring(0, 6));
            }
        }
    }

    static void closed() {
        says(4, "(a ( till its ) , a ! till its F ends)");
        stands("grow 5 !!!!!t<1&!!!!!t<1");
        stands("grow 5 !!!!!t<1|!!!!!t<1|!!!!!t<1");
        stands("grow 5 (((((t<1)))))&(((((t<1)))))");
        stands("grow 5 (((((t<1)))))|!!!!!t<1");
        faultAt(17, "grow 5 !t<1&!!!!!!t<1");
        // a ) closes its ( alone: four are open still, and one more may be
        stands("grow 5 (((((t<1)&(t<1)))))");
        faultAt(18, "grow 5 (((((t<1)&((t<1)))))");
        // within brackets, the ! of a factor ends with it
        stands("grow 5 (!!!!t<1&!!!!t<1)");
        faultAt(20, "grow 5 (!!!!t<1&!!!!!t<1)");
        stands("grow 5 ((!!!t<1|!!!t<1)&!!!!t<1)");
        // a ! ahead of a ( is open till the ) that ends its F
        stands("grow 5 !(!!!t<1)");
        faultAt(12, "grow 5 !(!!!!t<1)");
        stands("grow 5 !(t<1&(t<1&((t<1))))");
        faultAt(20, "grow 5 !(t<1&(t<1&(((t<1)))))");
        stands("grow 5 !(t<1)&!(t<1)&!(t<1)&!(!(!t<1))");
        stands("grow 5 !(t<1)&!!!!!t<1");
        stands("grow 5 !(t<1&!(t<1&!t<1))");
        faultAt(20, "grow 5 !(t<1&!(t<1&!!t<1))");
        // another clause begins with none open
        stands("grow 5 !!!!!t<1;hold 5 (((((t<1)))));grow 5 !!!!!t<1");
    }

    static void faults() {
        says(4, "FAULT: the place of the first byte with which no HOUSE can go on (the size, if it ends too early)");
        stands(RICH);
        for (int size = 0; size < RICH.length(); size++) {
            int answer = house(new KnockPipes(), RICH.substring(0, size));
            due("'" + RICH.substring(0, size) + "' ends too early, or is a house", answer == -10 - size || answer == 0 ? 1 : 0, 1);
            faultAt(size, RICH.substring(0, size) + "#" + RICH.substring(size + 1));
            faultAt(size, RICH.substring(0, size) + "##");
            faultAt(size, RICH.substring(0, size) + (char) 0 + RICH.substring(size));
        }
        // the first of several
        faultAt(5, "warm x;cool x");
        faultAt(0, "xwarm 123456;;");
    }

    /** Of all bytes, just these can stand behind a head. */
    static void next(String head, String may) {
        for (int b = 0; b < 256; b++) {
            KnockPipes x = new KnockPipes();
            feed(x, head);
            x.feed(b, 1);
            int answer = x.house();
            boolean can = b < 128 && may.indexOf((char) b) >= 0;
            due("whether byte " + b + " can stand behind '" + head + "'", answer == -10 - head.length() ? 0 : 1, can ? 1 : 0);
            if (can) due("then it ends too early, or is a house", answer == 0 || answer == -11 - head.length() ? 1 : 0, 1);
        }
    }

    static void nextBytes() {
        says(4, "the first byte with which no HOUSE can go on");
        next("", "ghwcia");
        next("h", "oe");
        next("he", "a");
        next("hear", " ");
        next("hear ", DIGITS);
        next("hear 0", ";");
        next("hear 1", DIGITS + ";");
        next("hear 10", ";");
        next("hear 10;", "ghwcia");
        next("grow ", DIGITS);
        next("grow 0", " ");
        next("grow 9", DIGITS + " ");
        next("grow 90", " ");
        next("grow 90 ", SUBJECTS + "!(");
        next("hold 90 !!!!", SUBJECTS + "!(");
        next("hold 90 !!!!!", SUBJECTS);
        next("grow 9 ((((", SUBJECTS + "!(");
        next("grow 9 (((((", SUBJECTS);
        next("grow 9 t", SIGNS);
        next("grow 9 t<", DIGITS);
        next("grow 9 t<0", "&|;");
        next("grow 9 t<3", DIGITS + "&|;");
        next("grow 9 t<30", "&|;");
        next("grow 9 (t<30", "&|)");
        next("grow 9 (t<30)", "&|;");
        next("grow 9 ((t<30)", "&|)");
        next("grow 9 !t<30", "&|;");
        next("grow 9 t<30&", SUBJECTS + "!(");
        next("grow 9 t<30|", SUBJECTS + "!(");
        next("air 1;".repeat(9), "ghwcia");
        next("air 1;".repeat(9) + "air 1", DIGITS);
        next("air 1;".repeat(9) + "air 0", "");
        next("air 1;".repeat(9) + "grow 1 t<0", "&|");
    }

    static void emptyTape() {
        says(4, "(the size, if it ends too early)");
        KnockPipes x = new KnockPipes();
        due("an empty tape ends too early", x.house(), -10);
        due("it is no house", x.count(1), 0);
        due("house of air 7", house(x, "air 7"), 0);
        due("the tape is empty then", x.house(), -10);
        due("and the one that held holds", x.told(3), 7);
        faultAt(119, ("grow 1 " + "t<1|".repeat(28)));
        faultAt(120, ("grow 10 " + "t<1|".repeat(28)));
    }

    static void houses() {
        says(4, "HOUSES are numbered from 0 on, 5 at most");
        KnockPipes x = new KnockPipes();
        for (int i = 0; i < 5; i++) {
            due("houses", x.count(1), i);
            due("a fault has no number", house(x, "air"), -13);
            due("house", house(x, "air 1" + i), i);
            due("it holds", x.told(3), 10 + i);
        }
        due("houses", x.count(1), 5);
        due("a sixth", house(x, "air 20"), FULL);
        due("houses", x.count(1), 5);
        due("the fifth holds", x.told(3), 14);
        says(4, "THE TAPE, which is empty then (by a FAULT, too), is a HOUSE, and holds: its number; -10 less the FAULT"
            + " (the one that held holds)");
        x = in("warm 9;cool 8;iron 7;air 6;hear 5;grow 30 t<20;hold 4 t<20");
        due("empty by a house", x.count(3), 0);
        x.noise(1, 0, 0, 40);
        x.day(0, at(0));
        due("the least fault", house(x, "#warm 1"), -10);
        due("empty by a fault", x.count(3), 0);
        due("the greatest fault", house(x, "grow 10 " + "t<1|".repeat(28)), -130);
        due("empty by a fault", x.count(3), 0);
        // all of it but its end would be a house
        String late = "warm 1;cool 2;iron 2;air 2;hear 2;grow 50 t<9;hold 9 t<9;";
        due("a late fault", house(x, late), -10 - late.length());
        for (int what = 0; what < 5; what++) due("told(" + what + ")", x.told(what), 9 - what);
        due("length", x.knocks(0, 0, 0), 27);
        due("hold", x.knocks(0, 0, 1), 4);
        due("warmth", x.warmth(1), 1);
        due("houses", x.count(1), 1);
        due("the next is read alone", house(x, "air 3"), 1);
    }

    static void fullHouses() {
        says(4, "FULL (ahead of all; THE TAPE stays)");
        KnockPipes x = new KnockPipes();
        for (int i = 0; i < 4; i++) house(x, "air 1" + i);
        due("four houses: an empty tape is a fault", x.house(), -10);
        house(x, "air 14");
        due("five: of an empty tape", x.house(), FULL);
        feed(x, "warm 8");
        due("of a good one", x.house(), FULL);
        due("it stays", x.count(3), 6);
        feed(x, "####");
        due("of one with a fault", x.house(), FULL);
        due("it stays", x.count(3), 10);
        for (int i = 0; i < 11; i++) x.feed(0, 8);
        for (int i = 0; i < 11; i++) x.feed(0, 2);
        due("a full tape", x.count(3), 120);
        due("of a full one", x.house(), FULL);
        due("it stays", x.count(3), 120);
        due("and is full", x.feed(0, 1), FULL);
        due("the fifth holds", x.told(3) * 100 + x.told(0), 1403);
        due("five", x.count(1), 5);
    }

    static void newestHouse() {
        says(4, "the newest one holds");
        KnockPipes x = in("warm 9;cool 9;iron 9;air 9;hear 9;grow 99 t<40;hold 9 t<40");
        x.noise(0, 0, 5, 40);
        x.day(0, ALL);
        due("by the first, no knocks", knocking(x, 0), 0);
        due("second", house(x, "warm 2;grow 10 t<5"), 1);
        int[] told = {2, 1, 1, 4, 1};
        for (int what = 0; what < 5; what++) due("told(" + what + ")", x.told(what), told[what]);
        due("warmth", x.warmth(4), 10);
        due("length", x.knocks(0, 4, 0), 10);
        due("length, no E holding", x.knocks(0, 5, 0), 0);
        due("hold", x.knocks(0, 0, 1), 1);
        due("by the second, knocks", knocking(x, 0), at(5, 15, 25, 35));
    }

    // ---- 5 told

    static void told() {
        says(5, "Of the HOUSE what 0 warm, 1 cool, 2 iron, 3 air, 4 hear");
        int[] without = {3, 1, 1, 4, 1};
        KnockPipes x = new KnockPipes();
        for (int house = 0; house < 2; house++) {
            for (int what : new int[] {-1, 5, 6, LEAST_INT, MOST_INT}) due("told(" + what + ")", x.told(what), NONE);
            for (int what = 0; what < 5; what++) due("told(" + what + ")", x.told(what), without[what]);
            house(x, "grow 50 t<1");
        }
        says(5, "Of warm (3 without), cool (1), iron (1), air (4), hear (1) the last n holds");
        for (int word = 0; word < 5; word++) {
            for (int n : new int[] {0, 1, 9, 10, 99}) {
                x = in(WORDS[word + GROW_AND_HOLD] + " " + n);
                for (int what = 0; what < 5; what++) due("told", x.told(what), what == word ? n : without[what]);
            }
        }
    }

    static void lastTold() {
        says(5, "the last n holds");
        for (int word = 0; word < 5; word++) {
            String head = WORDS[word + GROW_AND_HOLD] + " ";
            due("the last, less", in(head + "9;" + head + "5").told(word), 5);
            due("the last, more", in(head + "5;" + head + "9").told(word), 9);
            due("the last of three", in(head + "5;grow 1 t<1;" + head + "9;hold 1 t<1;" + head + "0").told(word), 0);
            due("the last of ten", in((head + "5;").repeat(9) + head + "99").told(word), 99);
        }
    }

    // ---- 6 warmth

    static void warmthMinutes() {
        says(6, "MINUTES 0 .. 39 of a DAY");
        KnockPipes x = new KnockPipes();
        x.day(0, at(0, 39));
        due("warmth(-1)", x.warmth(-1), NONE);
        due("warmth(0)", x.warmth(0), 3);
        due("warmth(1)", x.warmth(1), 2);
        due("warmth(38)", x.warmth(38), 0);
        due("warmth(39)", x.warmth(39), 3);
        due("warmth(40)", x.warmth(40), NONE);
        for (int m : new int[] {-2, 41, 64, LEAST_INT, MOST_INT}) due("warmth(" + m + ")", x.warmth(m), NONE);
    }

    static void warmthAhead() {
        says(6, "WARMTH (0 ahead of MINUTE 0) in a MINUTE: warm more with the BOILER on, else cool less");
        KnockPipes x = in("warm 7;cool 2");
        due("off in minute 0", x.warmth(0), 0);
        x.day(0, at(0));
        due("on in minute 0", x.warmth(0), 7);
        due("then off", x.warmth(1), 5);
        x.day(0, at(1, 3));
        int[] want = {0, 7, 5, 12, 10, 8, 6, 4, 2, 0, 0};
        for (int m = 0; m < want.length; m++) due("warmth(" + m + ")", x.warmth(m), want[m]);
        x = in("warm 0;cool 0");
        x.day(0, ALL);
        due("by 0", x.warmth(39), 0);
        x = in("warm 5;cool 0");
        x.day(0, at(0));
        due("cool by 0", x.warmth(39), 5);
        x.day(1, ALL);
        x.day(2, ALL);
        due("neither the tap nor the pump warms", x.warmth(39), 5);
    }

    static void warmthBounds() {
        says(6, "(0 .. 99, else the bound)");
        int[][] steps = {{49, 98}, {33, 99}, {50, 99}, {98, 99}, {99, 99}};
        for (int[] step : steps) {
            KnockPipes x = in("warm " + step[0]);
            x.day(0, step[0] == 33 ? minutes(0, 2) : minutes(0, 1));
            due("up by " + step[0], x.warmth(step[0] == 33 ? 2 : 1), step[1]);
            x.day(0, ALL);
            due("and no further", x.warmth(39), 99);
        }
        KnockPipes x = in("warm 1");
        x.day(0, ALL);
        due("up by 1", x.warmth(39), 40);
        x = in("warm 99;cool 98");
        x.day(0, at(0, 2));
        due("99", x.warmth(0), 99);
        due("down to 1", x.warmth(1), 1);
        due("over the bound", x.warmth(2), 99);
        due("from the bound", x.warmth(3), 1);
        due("under the bound", x.warmth(4), 0);
        x.day(0, at(0, 6));
        due("from the bound 0 up", x.warmth(6), 99);
        x = in("warm 98;cool 98");
        x.day(0, at(0));
        due("down to 0", x.warmth(1), 0);
        due("0 still", x.warmth(2), 0);
        x = in("warm 97;cool 98");
        x.day(0, at(0, 2));
        due("down to the bound 0", x.warmth(1), 0);
        due("and up from there", x.warmth(2), 97);
    }
}
