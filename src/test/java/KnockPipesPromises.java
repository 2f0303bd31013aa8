/** Each promise by hand: ordinary calls, the edges that the document names, and wrong ones. */
public final class KnockPipesPromises extends Asking {
    public static void main(String[] args) {
        newObject();
        days();
        feeding();
        words();
        conditions();
        limitsOfHouses();
        numbersOfHouses();
        warmth();
        noises();
        stillness();
        lengths();
        ticks();
        others();
        loudness();
        hearing();
        seeming();
        notebook();
        fitting();
        sets();
        trying();
        leastStill();
        easing();
        parting();
        quietness();
        moving();
        aging();
        harms();
        acts();
        kinds();
        images();
        fullImage();
        rowsOfAnImage();
        firstCalls();
        everythingFull();
        wildNumbers();
        end("promises by hand");
    }

    // 1
    static void newObject() {
        KnockPipes x = new KnockPipes();
        for (int what = 0; what < 5; what++) due("new count", x.count(what), 0);
        for (int what = 0; what < 3; what++) due("new day", x.day(what, 0), 0);
        int[] told = {3, 1, 1, 4, 1};
        for (int what = 0; what < 5; what++) due("new told", x.told(what), told[what]);
        due("new warmth", x.warmth(0) + x.warmth(39), 0);
        due("new heard", x.heard(0, -1), 0);
        due("new seems", x.seems(0), -5);
        due("new quiet", x.quiet(0), 1);
        due("new quiet 1", x.quiet(1), 0);
        due("new which 0", x.which(0), -5);
        due("new which 1", x.which(1), 0);
        due("new which 2", x.which(2), -5);
        due("new which 3", x.which(3), -1);
        due("new next", x.next(), -5);
        due("new least", x.least(0, 0), 0);
        due("new older", x.older(), 40);
        due("new clear", x.clear(), 0);
        due("new trace", x.trace(0), -1);
        due("new undo", x.undo(), -3);
        due("new noise 0", x.of(0, 0), -1);
        due("the constants", KnockPipes.NONE + 10 * KnockPipes.BAD + 100 * KnockPipes.STATE + 1000 * KnockPipes.FULL,
            -1 - 20 - 300 - 4000);
        due("NO", KnockPipes.NO, Long.MIN_VALUE);
    }

    // 2
    static void days() {
        KnockPipes x = new KnockPipes();
        due("day first", x.day(0, 7), 0);
        due("day again", x.day(0, 1), 3);
        due("day of another", x.day(1, ALL), 0);
        due("day bad", x.day(0, 1L << 40), -2);
        due("day negative", x.day(0, -1), -2);
        due("day least", x.day(0, Long.MIN_VALUE), -2);
        due("day none ahead of bad", x.day(3, -1), -1);
        due("day none", x.day(-1, 0), -1);
        due("day kept through refusals", x.day(0, 0), 1);
        due("whole day", x.day(1, 0), 40);
        due("third row", x.day(2, minutes(39, 39)), 0);
        due("third row again", x.day(2, 0), 1);
    }

    // 3
    static void feeding() {
        KnockPipes x = new KnockPipes();
        due("feed 0", x.feed(1, 0), -2);
        due("feed 9", x.feed(1, 9), -2);
        due("feed -1", x.feed(1, -1), -2);
        due("feed 5 of 8", x.feed(0x7878786169722037L, 5), 5);
        due("house of air 7", x.house(), 0);
        due("told air", x.told(3), 7);
        due("tape is empty", x.count(3), 0);
        for (int i = 1; i <= 15; i++) due("feed 8", x.feed(0, 8), 8 * i);
        due("full", x.feed(0, 1), -4);
        due("bad ahead of full", x.feed(0, 9), -2);
        due("kept through refusals", x.count(3), 120);
        x = new KnockPipes();
        for (int i = 1; i <= 14; i++) x.feed(0, 8);
        x.feed(0, 1);
        due("too many at once", x.feed(0, 8), -4);
        due("just enough", x.feed(0, 7), 120);
        x = new KnockPipes();
        due("all 8, highest first", x.feed(0x69726F6E2039393BL, 8), 8);
        due("a high byte", x.feed(0xFF, 1), 9);
        due("its fault", x.house(), -18);
    }

    // 4
    static void words() {
        read("", -10);
        read("x", -10);
        read(" warm 1", -10);
        read("Warm 1", -10);
        read("g", -11);
        read("gx", -11);
        read("h", -11);
        read("hx", -11);
        read("hol", -13);
        read("heal 1", -13);
        read("hea", -13);
        read("airs", -13);
        read("ai", -12);
        read("aim", -12);
        read("warm", -14);
        read("warm1", -14);
        read("warm ", -15);
        read("warm  1", -15);
        read("warm a", -15);
        read("warm 1 ", -16);
        read("warm 1x", -16);
        read("warm 1|", -16);
        read("warm 0", 0);
        read("warm 00", -16);
        read("warm 05", -16);
        read("warm 9", 0);
        read("warm 99", 0);
        read("warm 123", -17);
        read("cool 1", 0);
        read("iron 1", 0);
        read("air 1", 0);
        read("hear 1", 0);
        read("warm 1;", -17);
        read("warm 1;;", -17);
        read("warm 1; air 1", -17);
        read("warm 1;air 1", 0);
        read("warm 12;air 1;q", -24);
        read("grow 5", -16);
        read("grow 5;", -16);
        read("grow 5 ", -17);
        read("grow 5  p=1", -17);
        read("grow 55 p=1", 0);
        read("grow 555 p=1", -17);
        read("hold 1 t>9", 0);
    }

    static void conditions() {
        read("grow 5 p", -18);
        read("grow 5 x=1", -17);
        read("grow 5 P=1", -17);
        read("grow 5 =1", -17);
        read("grow 5 p1", -18);
        read("grow 5 p!", -18);
        read("grow 5 p=", -19);
        read("grow 5 p==1", -19);
        read("grow 5 p<=1", -19);
        read("grow 5 p=01", -20);
        read("grow 5 p=100", -21);
        read("grow 5 p=1 ", -20);
        read("grow 5 n=1", 0);
        read("grow 5 k<1", 0);
        read("grow 5 v>99", 0);
        read("grow 5 t=0", 0);
        read("grow 5 p=1&", -21);
        read("grow 5 p=1|", -21);
        read("grow 5 p=1|&", -21);
        read("grow 5 p=1&&k=1", -21);
        read("grow 5 p=1)", -20);
        read("grow 5 (p=1", -21);
        read("grow 5 (p=1;", -21);
        read("grow 5 (p=1)", 0);
        read("grow 5 (p=1))", -22);
        read("grow 5 ()", -18);
        read("grow 5 !", -18);
        read("grow 5 !!p=1|(k=1&!(t<3))", 0);
        read("grow 5 p=1!", -20);
        read("grow 5 !!!!!p=1", 0);
        read("grow 5 !!!!!!p=1", -22);
        read("grow 5 (((((p=1)))))", 0);
        read("grow 5 ((((((p=1))))))", -22);
        read("grow 5 !(!(!p=1))", 0);
        read("grow 5 !(!(!(p=1)))", -22);
        read("grow 5 !(!(!!p=1))", -22);
        read("grow 5 !!!!!p=1&!!!!!p=1|!!!!!p=1", 0);
        read("grow 5 !!!!(p=1&!p=1)", -26);
        read("grow 5 (((((p=1)))))&(((((p=1)))))", 0);
        read("grow 5 ((((p=1))|(p=1&(p=1))&!p=1))", 0);
    }

    static void limitsOfHouses() {
        String nine = "air 1;".repeat(9);
        read(nine + "air 2", 0);
        read(nine + "air 2;", -69);
        read(nine + "air 2;air 3", -69);
        KnockPipes x = new KnockPipes();
        due("first", house(x, "warm 7"), 0);
        due("fault", house(x, "warm 8;"), -17);
        due("the one that held holds", x.told(0), 7);
        due("tape is empty by a fault", x.count(3), 0);
        due("fault is not counted", x.count(1), 1);
        for (int i = 1; i < 5; i++) due("house " + i, house(x, "warm 1" + i), i);
        due("newest holds", x.told(0), 14);
        feed(x, "warm 2");
        due("full", x.house(), -4);
        due("the tape stays", x.count(3), 6);
        due("full holds", x.told(0), 14);
        due("five houses", x.count(1), 5);
        String long120 = "grow 1 " + "p=1|".repeat(27) + "p=1&v=" ;
        due("its size", long120.length(), 121);
        read("grow 1 " + "p=1|".repeat(27) + "p=1;a", -10 - 120);
        read("grow 1 " + "p=1|".repeat(27) + "p=10|", -10 - 120);
        read("grow 1 " + "p=1|".repeat(27) + "p=11", 0);
    }

    // 5
    static void numbersOfHouses() {
        KnockPipes x = new KnockPipes();
        house(x, "warm 10;cool 20;iron 30;air 40;hear 50;warm 11;hear 0");
        int[] told = {11, 20, 30, 40, 0};
        for (int what = 0; what < 5; what++) due("told " + what, x.told(what), told[what]);
        due("told none", x.told(5), -1);
        due("told none", x.told(-1), -1);
        house(x, "cool 2");
        int[] then = {3, 2, 1, 4, 1};
        for (int what = 0; what < 5; what++) due("told then " + what, x.told(what), then[what]);
    }

    // 6
    static void warmth() {
        KnockPipes x = new KnockPipes();
        x.day(0, minutes(2, 4));
        int[] due = {0, 0, 3, 6, 9, 8, 7};
        for (int m = 0; m < due.length; m++) due("warmth " + m, x.warmth(m), due[m]);
        due("warmth cold again", x.warmth(13), 0);
        due("warmth at the end", x.warmth(39), 0);
        due("warmth none", x.warmth(40), -1);
        due("warmth none", x.warmth(-1), -1);
        house(x, "warm 40;cool 7");
        x.day(0, minutes(0, 2));
        int[] bound = {40, 80, 99, 92};
        for (int m = 0; m < bound.length; m++) due("bounded warmth " + m, x.warmth(m), bound[m]);
        due("warmth last above 0", x.warmth(16), 1);
        due("warmth bounded below", x.warmth(17), 0);
    }

    // 7, 8
    static void noises() {
        KnockPipes x = new KnockPipes();
        due("kind", x.noise(7, 10, 10, 41), -1);
        due("kind", x.noise(-1, 0, 0, 1), -1);
        due("place", x.noise(0, 10, 10, 1), -1);
        due("place", x.noise(0, -1, 0, 1), -1);
        due("v", x.noise(0, 0, 10, 1), -2);
        due("v", x.noise(0, 0, -1, 1), -2);
        due("loudness", x.noise(0, 0, 0, 0), -2);
        due("loudness", x.noise(0, 0, 0, 41), -2);
        due("none was made", x.count(0), 0);
        for (int i = 0; i < 10; i++) due("noise", x.noise(i % 7, 9 - i, i, 4 * i + 1), i);
        due("bad ahead of full", x.noise(0, 0, 10, 1), -2);
        due("none ahead of full", x.noise(7, 0, 0, 1), -1);
        due("full", x.noise(0, 0, 0, 1), -4);
        for (int i = 0; i < 10; i++) {
            due("of kind", x.of(i, 0), i % 7);
            due("of place", x.of(i, 1), 9 - i);
            due("of v", x.of(i, 2), i);
            due("of loudness", x.of(i, 3), 4 * i + 1);
            due("of still", x.of(i, 4), 0);
        }
        due("of none", x.of(10, 0), -1);
        due("of none", x.of(-1, 0), -1);
        due("of what", x.of(0, 5), -1);
        due("of what", x.of(0, -1), -1);
    }

    // 9
    static void stillness() {
        KnockPipes x = new KnockPipes();
        due("still none", x.still(0, true), -1);
        x.noise(0, 0, 0, 10);
        x.noise(0, 0, 0, 10);
        due("knocks", x.knocks(0, 0, 2), 1);
        due("still", x.still(0, true), 0);
        due("still again", x.still(0, true), 1);
        due("of", x.of(0, 4), 1);
        due("of the other", x.of(1, 4), 0);
        due("knocks not", x.knocks(0, 0, 2), 0);
        due("the other does", x.knocks(1, 0, 2), 1);
        due("no longer", x.still(0, false), 1);
        due("no longer", x.still(0, false), 0);
        due("knocks again", x.knocks(0, 0, 2), 1);
        due("still none", x.still(2, false), -1);
        due("still none", x.still(-1, false), -1);
    }

    // 10
    static void lengths() {
        KnockPipes x = new KnockPipes();
        x.day(0, ALL);
        // warmth in minute m: 3 (m + 1)
        house(x, "grow 10 k=1&v<5;grow 25 n=2|p>8;hold 4 t<3;hold 5 !t>2");
        x.noise(1, 0, 4, 10);
        x.noise(1, 0, 5, 10);
        x.noise(4, 8, 5, 10);
        x.noise(4, 9, 5, 10);
        x.noise(1, 9, 4, 10);
        due("length by one", x.knocks(0, 9, 0), 30);
        due("length by none", x.knocks(1, 9, 0), 0);
        due("length by its number", x.knocks(2, 9, 0), 75);
        due("length by its place", x.knocks(3, 0, 0), 7);
        due("length by both", x.knocks(4, 0, 0), 10);
        due("hold by both", x.knocks(0, 2, 1), 9);
        due("hold by none", x.knocks(0, 3, 1), 1);
        x.still(0, true);
        due("length of a still one", x.knocks(0, 9, 0), 30);
        due("hold of a still one", x.knocks(0, 2, 1), 9);
        due("knocks none", x.knocks(5, 0, 0), -1);
        due("knocks none", x.knocks(-1, 0, 0), -1);
        due("knocks minute", x.knocks(0, 40, 0), -1);
        due("knocks minute", x.knocks(0, -1, 0), -1);
        due("knocks what", x.knocks(0, 0, 3), -1);
        due("knocks what", x.knocks(0, 0, -1), -1);
        house(x, "grow 99 p<10;grow 99 p<10;grow 99 t=38;grow 0 t=39;hold 0 t=1");
        due("length cut", x.knocks(0, 32, 0), 99 * 198 / 10);
        due("length of a minute", x.knocks(0, 38, 0), 99 * 297 / 10);
        due("hold 1 at least", x.knocks(0, 1, 1), 1);
        house(x, "grow 1 t<99;grow 2 t>99;grow 4 t=40;grow 8 !t=99;grow 16 t<0;grow 32 t>0;grow 64 t>39");
        due("tests of the minute", x.knocks(0, 0, 0), 3 * 9 / 10);
        due("tests of the minute", x.knocks(0, 9, 0), 30 * 41 / 10);
        house(x, "grow 10 p=1&p=0|k=1;grow 20 p=1&(p=0|k=1);grow 40 !p=1&p=0;grow 80 !(p=1|p=0)");
        due("& ahead of |, and ( ), and !", x.knocks(0, 9, 0), 30 * 50 / 10);
        house(x, "grow 10 !n<0;grow 20 n<0|v=4;grow 40 n>0|n<0");
        due("what can't hold", x.knocks(0, 9, 0), 30 * 30 / 10);
    }

    static void ticks() {
        KnockPipes x = new KnockPipes();
        x.day(0, minutes(0, 9));
        // warmth 3, 6, .. 30, then 29, 28, ..
        house(x, "grow 10 k=1;grow 10 k=4;hold 3 v=2");
        x.noise(1, 0, 0, 10);
        x.noise(1, 0, 2, 10);
        x.noise(4, 0, 0, 10);
        x.noise(4, 0, 2, 10);
        due("ticks while it grows", x.knocks(0, 0, 2), 3);
        due("ticks while it grows", x.knocks(0, 9, 2), 3);
        due("ticks while it shrinks", x.knocks(0, 10, 2), 1);
        due("held", x.knocks(1, 4, 2), 1);
        due("held by 3, off 1", x.knocks(1, 10, 2), 0);
        due("held by 3, off 2", x.knocks(1, 11, 2), 0);
        due("held by 3, off 3", x.knocks(1, 12, 2), 1);
        due("it sticks anew", x.knocks(1, 13, 2), 0);
        due("steamed in the first minute", x.knocks(2, 0, 2), 3);
        due("steamed while it grows", x.knocks(3, 9, 2), 1);
        due("steamed while it shrinks", x.knocks(2, 10, 2), 0);
        x.day(0, minutes(0, 9) | minutes(13, 13));
        // 27 in minute 12, at which it sticks all the same; 30 in minute 13
        due("steamed sticks all the same", x.knocks(3, 13, 2), 1);
        house(x, "warm 1;grow 10 k=4");
        due("warmer than ahead of minute 0", x.knocks(2, 0, 2), 1);
        house(x, "warm 99;cool 0;grow 10 t=5|k=1");
        due("as warm as ahead: ticking", x.knocks(0, 0, 2) * 10 + x.knocks(0, 5, 2), 90);
        due("as warm as ahead: steamed", x.knocks(2, 5, 2), 0);
        due("as warm as ahead", x.warmth(5), 99);
        due("no noise knocks by other kinds' E", x.knocks(2, 14, 2), 0);
        house(x, "warm 99;cool 1;grow 10 t<30");
        due("9 at most", x.knocks(0, 0, 2), 9);
        due("to nothing at once", x.knocks(0, 30, 2), 9);
        due("and once", x.knocks(0, 31, 2), 0);
        house(x, "warm 10;cool 0;grow 10 t<99;hold 11 t=0;hold 12 t=1");
        x.day(0, minutes(0, 1));
        due("not by 11", x.knocks(0, 0, 2), 0);
        due("20 by 12", x.knocks(0, 1, 2), 1);
        due("no more then", x.knocks(0, 2, 2), 0);
    }

    static void others() {
        KnockPipes x = new KnockPipes();
        x.day(1, minutes(0, 0) | minutes(5, 6) | minutes(39, 39));
        x.day(2, minutes(0, 2) | minutes(10, 13) | minutes(39, 39));
        house(x, "grow 0 t=13;hold 0 t=23");
        x.noise(0, 0, 3, 10);
        x.noise(2, 0, 4, 10);
        x.noise(5, 0, 3, 10);
        x.noise(3, 0, 3, 10);
        x.noise(3, 0, 0, 10);
        x.noise(6, 0, 3, 10);
        x.noise(6, 0, 0, 10);
        x.noise(5, 0, 0, 10);
        x.noise(3, 0, 2, 10);
        String[] want = {
            "3:1 33:1",
            "1:4 7:4",
            "0:1 1:3 5:1 7:3 39:1",
            "2:1 12:1 13:1",
            "0:1 1:1 2:1 10:1 11:1 12:1 13:1 39:1",
            "5:1 6:1 7:1 8:1 9:1 16:1 17:1 18:1 19:1 20:1 21:1 22:1 23:1 24:1 25:1 26:1 27:1 28:1 29:1 30:1 31:1"
                + " 32:1 33:1 34:1 35:1 36:1 37:1 38:1",
            null,
            "0:1 5:1 39:1",
            "1:1 2:1 11:1 12:1 13:1"};
        for (int i = 0; i < want.length; i++) {
            if (want[i] == null) continue;
            for (int m = 0; m < 40; m++) {
                int due = 0;
                for (String part : want[i].split(" ")) {
                    if (part.startsWith(m + ":")) due = Integer.parseInt(part.substring(part.indexOf(':') + 1));
                }
                due("noise " + i + " in minute " + m, x.knocks(i, m, 2), due);
            }
        }
        due("next door, v 0 as 1", x.knocks(6, 3, 2), 1);
        due("next door, pump on", x.knocks(6, 2, 2), 0);
        x.day(2, 0);
        due("no minutes ahead of minute 0", x.knocks(5, 1, 2), 0);
        due("three minutes off", x.knocks(5, 2, 2), 1);
    }

    // 11
    static void loudness() {
        KnockPipes x = new KnockPipes();
        house(x, "iron 2;air 6");
        x.day(0, minutes(1, 1));
        // warm in minutes 1 .. 3
        x.noise(1, 4, 0, 30);
        x.noise(2, 4, 0, 30);
        x.noise(5, 4, 0, 30);
        x.noise(3, 4, 0, 9);
        due("there", x.loud(0, 4, 0), 30);
        due("one off by air", x.loud(0, 5, 0), 24);
        due("two off by air, cold", x.loud(0, 6, 0), 18);
        due("one off, warm: as loud by both ways", x.loud(0, 3, 1), 24);
        due("two off by iron, warm", x.loud(0, 2, 1), 21);
        due("still warm", x.loud(0, 2, 3), 21);
        due("cold again", x.loud(0, 2, 4), 18);
        due("struck, cold", x.loud(1, 2, 0), 21);
        due("gurgling, cold", x.loud(2, 9, 0), 15);
        due("0 at least", x.loud(3, 9, 0), 0);
        due("0 at least, warm", x.loud(3, 9, 2), 0);
        x.still(0, true);
        due("a still one", x.loud(0, 2, 1), 21);
        due("loud none", x.loud(4, 0, 0), -1);
        due("loud none", x.loud(-1, 0, 0), -1);
        due("loud place", x.loud(0, 10, 0), -1);
        due("loud place", x.loud(0, -1, 0), -1);
        due("loud minute", x.loud(0, 0, 40), -1);
        due("loud minute", x.loud(0, 0, -1), -1);
        house(x, "air 0;iron 0");
        due("nothing swallows", x.loud(0, 9, 1), 30);
    }

    // 12
    static void hearing() {
        KnockPipes x = new KnockPipes();
        house(x, "air 2;iron 9;hear 6");
        x.day(1, minutes(0, 0));
        x.noise(0, 0, 1, 10);
        x.noise(2, 3, 5, 10);
        x.noise(0, 9, 1, 10);
        due("all there", x.heard(2, 1), 1 + 5);
        due("hear or more", x.heard(5, 1), 5);
        due("far off", x.heard(9, 1), 1);
        due("another minute", x.heard(0, 2), 0);
        due("the whole day", x.heard(2, -1), 4 + 5);
        x.noise(0, 0, 0, 10);
        due("from minute 0 on", x.heard(2, -1), 4 + 5 + 4);
        x.still(3, true);
        x.still(1, true);
        due("a still one", x.heard(2, 1), 1);
        due("heard place", x.heard(10, 0), -1);
        due("heard place", x.heard(-1, -1), -1);
        due("heard minute", x.heard(0, 40), -1);
        due("heard minute", x.heard(0, -2), -1);
        house(x, "hear 0;air 99");
        x.still(1, false);
        due("hear 0: also what isn't loud", x.heard(5, 1), 7);
    }

    // 13
    static void seeming() {
        KnockPipes x = new KnockPipes();
        house(x, "air 4");
        x.noise(0, 2, 0, 12);
        x.noise(0, 4, 0, 12);
        x.noise(0, 8, 1, 40);
        due("of several the least", x.seems(0), 2);
        due("one alone", x.seems(1), 8);
        due("none knocks", x.seems(2), -5);
        x.still(2, true);
        due("a still one", x.seems(1), -5);
        x.noise(0, 6, 0, 12);
        // 2: 12 + 4; 4: 4 + 12 + 4; 6: 4 + 12; 3: 8 + 8
        due("in the midst", x.seems(0), 4);
        x.noise(0, 0, 5, 1);
        due("the first place, hardly loud", x.seems(5), 0);
        x.noise(0, 9, 6, 1);
        due("the last place", x.seems(6), 9);
        due("seems none", x.seems(40), -1);
        due("seems none", x.seems(-1), -1);
    }

    // 14, 15
    static void notebook() {
        KnockPipes x = new KnockPipes();
        due("place ahead of n", x.note(10, 0, 100), -1);
        due("place", x.note(-1, 0, 0), -1);
        due("minute", x.note(0, 40, 0), -1);
        due("minute", x.note(0, -1, 0), -1);
        due("n", x.note(0, 0, 100), -2);
        due("n", x.note(0, 0, -1), -2);
        for (int i = 1; i <= 12; i++) due("note", x.note(9, 39, 99), i);
        due("bad ahead of full", x.note(0, 0, 100), -2);
        due("full", x.note(0, 0, 0), -4);
        due("rows", x.count(2), 12);
        due("clear", x.clear(), 12);
        due("clear again", x.clear(), 0);
        due("note then", x.note(0, 0, 0), 1);
    }

    // 16, 17, 18
    static void fitting() {
        KnockPipes x = new KnockPipes();
        x.noise(0, 0, 0, 10);
        x.noise(0, 9, 1, 10);
        x.noise(0, 0, 1, 10);
        due("odds without rows", x.odds(1, 0), 0);
        due("odds without rows", x.odds(1, 1), 1);
        due("which without rows", x.which(0), 0);
        x.note(0, 0, 1);
        x.note(0, 1, 1);
        x.note(0, 2, 0);
        x.note(9, 1, 1);
        due("fits 0", x.fits(0), 0b0101);
        due("fits 1", x.fits(1), 0b1100);
        due("fits 2", x.fits(2), 0b0110);
        x.note(0, 31, 1);
        due("fits 2 then", x.fits(2), 0b10110);
        x.still(2, true);
        due("fits of a still one", x.fits(2), 0b10110);
        due("odds of 3 in 7", x.odds(2, 0), 3);
        due("odds of 3 in 7", x.odds(2, 1), 7);
        due("odds of 2 in 7", x.odds(0, 0), 2);
        due("which", x.which(0), 2);
        x.note(0, 10, 1);
        due("odds in lowest terms", x.odds(0, 0), 3);
        x.note(5, 5, 0);
        // fits are 4, 3 and 4 of 11 together
        due("of several the least", x.which(0), 0);
        due("odds of 3 in 11", x.odds(1, 0), 3);
        due("odds of 3 in 11", x.odds(1, 1), 11);
        x.note(0, 20, 1);
        due("odds of 5 in 12", x.odds(0, 0), 5);
        due("odds of 3 in 12", x.odds(1, 0), 1);
        due("odds of 3 in 12", x.odds(1, 1), 4);
        x.clear();
        x.note(0, 0, 99);
        due("no fits at all", x.odds(0, 0), 0);
        due("no fits at all", x.odds(0, 1), 1);
        x.note(0, 0, 1);
        due("none of one", x.odds(1, 0), 0);
        due("none of one, in lowest terms", x.odds(1, 1), 1);
        due("fits none", x.fits(3), -1);
        due("fits none", x.fits(-1), -1);
        due("odds none", x.odds(3, 0), -1);
        due("odds part", x.odds(0, 2), -1);
        due("odds part", x.odds(0, -1), -1);
        due("which none", x.which(-1), -1);
    }

    // 18
    static void sets() {
        KnockPipes x = new KnockPipes();
        x.day(1, minutes(0, 0));
        x.note(0, 1, 1);
        due("no noises, a row", x.which(1), -5);
        x.clear();
        x.note(0, 1, 0);
        due("no noises, nothing was heard", x.which(1), 0);
        x.clear();
        x.noise(2, 0, 1, 40);
        x.noise(2, 0, 2, 40);
        x.noise(2, 0, 3, 40);
        x.noise(2, 0, 3, 40);
        due("no rows", x.which(1), 0);
        x.note(0, 1, 3);
        due("the fewest, then the least", x.which(1), 0b0100);
        x.still(2, true);
        due("whatever is still", x.which(1), 0b0100);
        x.note(9, 1, 3);
        due("two rows", x.which(1), 0b0100);
        x.clear();
        x.note(0, 1, 6);
        due("two, not three", x.which(1), 0b1100);
        x.clear();
        x.note(0, 1, 4);
        due("two of several", x.which(1), 0b0101);
        x.clear();
        x.note(0, 1, 9);
        due("all", x.which(1), 0b1111);
        x.clear();
        x.note(0, 1, 10);
        due("none", x.which(1), -5);
    }

    // 19
    static void trying() {
        KnockPipes x = new KnockPipes();
        x.noise(0, 0, 3, 5);
        due("one noise", x.next(), 0);
        x.noise(0, 5, 3, 5);
        // with air 4 each is heard one place off: apart at place 0 first
        due("two noises by place", x.next(), 3);
        x.still(0, true);
        due("each alone", x.next(), 3);
        x = new KnockPipes();
        x.day(1, minutes(6, 6));
        x.noise(2, 7, 1, 7);
        x.noise(2, 7, 2, 7);
        x.noise(2, 7, 3, 7);
        // heard where loud is 1 or more: by iron two and by air one place off
        due("three struck ones", x.next(), 607);
        house(x, "hear 2;air 9");
        due("by iron one off no more", x.next(), 707);
    }

    // 20
    static void leastStill() {
        KnockPipes x = new KnockPipes();
        x.day(1, minutes(0, 0));
        for (int v : new int[] {1, 5, 3, 4, 4}) x.noise(2, 0, v, 40);
        due("enough already", x.least(0, 17), 0);
        due("one, the least", x.least(0, 16), 0b00001);
        due("one that does", x.least(0, 13), 0b00010);
        due("one, the greatest alone", x.least(0, 12), 0b00010);
        due("two", x.least(0, 11), 0b00011);
        due("two", x.least(0, 8), 0b01010);
        due("all", x.least(0, 0), 0b11111);
        x.still(1, true);
        due("those not still now", x.least(0, 0), 0b11101);
        due("those not still now", x.least(0, 8), 0b01000);
        due("99", x.least(9, 99), 0);
        due("least place", x.least(10, 100), -1);
        due("least place", x.least(-1, 0), -1);
        due("least n", x.least(0, 100), -2);
        due("least n", x.least(0, -1), -2);
        for (int i = 0; i < 5; i++) x.still(i, true);
        due("all still", x.least(0, 0), 0);
    }

    // 21
    static void easing() {
        KnockPipes x = new KnockPipes();
        x.day(1, minutes(0, 0));
        house(x, "hear 1;air 10;iron 2");
        x.noise(2, 0, 3, 10);
        x.noise(5, 0, 2, 12);
        x.noise(0, 5, 1, 40);
        // at place 2: 10 - 5 - 4 is 1, 12 - 5 - 4 is 3; at 0 all are loud
        due("by nothing", x.eased(2, 0), 0);
        due("by 1", x.eased(2, 1), 3);
        due("by 2", x.eased(2, 2), 3);
        due("by 3, all under struck too", x.eased(2, 3), 3 + 3);
        due("other kinds are as loud", x.eased(2, 40), 6);
        due("1 at least", x.eased(0, 40), 0);
        house(x, "hear 2");
        due("1 at least, and no more", x.eased(0, 40), 6);
        due("2", x.eased(0, 8), 0);
        due("1 and 3", x.eased(0, 9), 3);
        house(x, "hear 1;air 10;iron 2");
        x.still(0, true);
        due("a still one", x.eased(2, 40), 3);
        due("eased place", x.eased(10, 41), -1);
        due("eased place", x.eased(-1, 0), -1);
        due("eased c", x.eased(0, 41), -2);
        due("eased c", x.eased(0, -1), -2);
        due("nothing was eased", x.of(0, 3), 10);
    }

    // 22
    static void parting() {
        KnockPipes x = new KnockPipes();
        x.day(1, minutes(4, 4) | minutes(38, 38));
        x.day(2, minutes(5, 6));
        x.noise(2, 0, 5, 40);
        x.noise(3, 0, 0, 1);
        x.noise(5, 9, 1, 1);
        x.noise(0, 3, 0, 1);
        due("parted in minute 0", x.parted(3, 0), minutes(0, 0) | minutes(5, 5) | minutes(10, 10) | minutes(20, 20)
            | minutes(30, 30) | minutes(39, 39));
        due("parted", x.parted(0, 1), minutes(6, 6) | minutes(39, 39));
        due("either way", x.parted(1, 0), minutes(6, 6) | minutes(39, 39));
        due("not by how often", x.parted(0, 2), minutes(4, 4) | minutes(38, 38));
        x.still(0, true);
        x.still(1, true);
        due("each alone", x.parted(0, 1), minutes(6, 6) | minutes(39, 39));
        due("one", x.parted(1, 1), Long.MIN_VALUE);
        due("no such", x.parted(0, 4), Long.MIN_VALUE);
        due("no such", x.parted(-1, 0), Long.MIN_VALUE);
        due("no such", x.parted(7, 7), Long.MIN_VALUE);
    }

    // 23
    static void quietness() {
        KnockPipes x = new KnockPipes();
        x.day(0, ALL);
        x.day(1, minutes(3, 3));
        x.day(2, ALL);
        house(x, "grow 10 k=1");
        x.noise(1, 0, 0, 1);
        x.noise(2, 0, 1, 1);
        x.noise(3, 0, 0, 1);
        due("quiet", x.quiet(0), 1);
        due("quiet by none", x.quiet(1), 0);
        x.noise(6, 0, 9, 1);
        x.noise(0, 0, 9, 1);
        due("not quiet", x.quiet(0), 0);
        due("by which", x.quiet(1), 0b11000);
        KnockPipes y = new KnockPipes();
        y.noise(0, 0, 0, 1);
        due("by the first", y.quiet(1), 1);
        x.still(3, true);
        due("a still one", x.quiet(1), 0b10000);
        x.still(4, true);
        due("all still", x.quiet(0), 1);
        due("the day stays", x.knocks(2, 0, 2), 1);
        due("the day stays", x.day(0, 0), 40);
        due("quiet none", x.quiet(2), -1);
        due("quiet none", x.quiet(-1), -1);
    }

    // 24
    static void moving() {
        KnockPipes x = new KnockPipes();
        x.noise(0, 0, 0, 10);
        due("out of hearing", x.moved(0, 0), 3);
        due("the least of several", x.moved(0, 9), 0);
        due("it did not move", x.of(0, 1), 0);
        due("and is heard", x.heard(0, 0), 1);
        house(x, "grow 1 p=5");
        due("where an E holds", x.moved(0, 5), 0);
        x.noise(0, 0, 0, 40);
        due("where an E holds, loud", x.moved(1, 0), 5);
        due("and as ever", x.knocks(1, 0, 2), 1);
        house(x, "hold 1 p>9");
        due("no place 10", x.moved(1, 0), 0);
        x.still(1, true);
        due("a still one", x.moved(1, 0), 0);
        due("moved none", x.moved(2, 0), -1);
        due("moved none", x.moved(-1, 0), -1);
        due("moved place", x.moved(0, 10), -1);
        due("moved place", x.moved(0, -1), -1);
    }

    // 25
    static void aging() {
        KnockPipes x = new KnockPipes();
        house(x, "grow 10 t<99;hold 9 t<99;warm 9");
        x.day(0, minutes(0, 4));
        x.noise(1, 0, 0, 40);
        x.note(0, 4, 1);
        due("heard so", x.heard(0, 4), 1);
        due("four later still one in minute 4", x.older(), 4);
        x.note(0, 20, 0);
        due("rows heard now are 2", x.older(), 4);
        x.note(0, 5, 1);
        // five later the first is heard no more, but the third is, and so no fewer are
        due("other rows, no fewer", x.older(), 5);
        x.clear();
        x.note(0, 0, 1);
        due("just now", x.older(), 0);
        x.clear();
        x.note(0, 0, 2);
        due("not a row is heard so", x.older(), 40);
        x.clear();
        x.note(0, 39, 0);
        due("what is beyond is lost", x.older(), 40);
        x.note(0, 1, 1);
        due("the day stays", x.older(), 1);
        due("the day stays", x.day(0, 0), 5);
    }

    // 26, 18
    static void harms() {
        KnockPipes x = new KnockPipes();
        x.day(1, minutes(0, 0) | minutes(2, 2));
        x.noise(2, 0, 3, 7);
        x.noise(0, 0, 0, 10);
        x.noise(0, 0, 0, 11);
        due("harm", x.harm(0), 6 * 7);
        due("harm", x.harm(1), 4 * 10);
        due("worst", x.which(2), 2);
        x.still(2, true);
        due("harm of a still one", x.harm(2), 0);
        due("worst then", x.which(2), 0);
        x.still(0, true);
        x.still(1, true);
        due("worst of several", x.which(2), 0);
        due("harm none", x.harm(3), -1);
        due("harm none", x.harm(-1), -1);
    }

    static void act(KnockPipes x, int noise, int act, int n, int want, int... bodies) {
        due("act(" + noise + ", " + act + ", " + n + ")", x.act(noise, act, n), want);
        due("bodies of it", x.count(4), bodies.length);
        for (int i = 0; i < bodies.length; i++) due("body " + i, x.trace(i), bodies[i]);
        due("no more bodies", x.trace(bodies.length), -1);
        due("no body -1", x.trace(-1), -1);
    }

    // 27, 28
    static void acts() {
        KnockPipes x = new KnockPipes();
        // noise i of kind i, and v 9 - i
        for (int i = 0; i < 7; i++) x.noise(i, 0, 9 - i, 1);
        act(x, 0, 0, 5, 5, 1);
        act(x, 0, 1, 5, 5 - 9, 2, 1);
        act(x, 0, 2, 5, (5 - 9) * 2, 3, 2, 1);
        act(x, 1, 0, 5, 15 + 1, 11, 1);
        act(x, 1, 1, 5, 16 - 8, 2, 11, 1);
        act(x, 1, 2, 5, 16, 3, 2, 11, 1);
        act(x, 2, 0, 5, 7, 1);
        act(x, 2, 1, 5, -(7 - 7), 21, 2, 1);
        act(x, 2, 2, 9, -8, 3, 21, 2, 1);
        act(x, 3, 0, 5, 8, 1);
        act(x, 3, 1, 5, 8 - 6, 2, 1);
        act(x, 3, 2, 5, 4 ^ 7, 31, 3, 2, 1);
        act(x, 4, 0, 5, 19, 11, 1);
        act(x, 4, 1, 5, 19 - 5, 2, 11, 1);
        act(x, 4, 2, 5, (12 + 4 - 5) * 2 + 6 + 4, 41, 3, 2, 11, 1, 11, 1);
        act(x, 5, 0, 5, 10 ^ 5, 51, 1);
        act(x, 5, 0, 0, 0, 51, 1);
        act(x, 5, 1, 5, -((10 ^ 5) - 4), 21, 2, 51, 1);
        act(x, 5, 2, 5, -((10 ^ 5) - 4) * 2, 3, 21, 2, 51, 1);
        act(x, 6, 0, 5, 11, 1);
        act(x, 6, 1, 5, 11 - 3 + 3, 61, 2, 1);
        act(x, 6, 2, 5, 22 ^ 7, 31, 3, 61, 2, 1);
        act(x, 7, 0, 5, 0);
        act(x, 6, 2, 5, 22 ^ 7, 31, 3, 61, 2, 1);
        act(x, 0, 3, 5, 0);
        act(x, 6, 0, 1, 7, 1);
        act(x, 0, -1, 5, 0);
        act(x, -1, 0, 5, 0);
        act(x, 1, 0, Integer.MAX_VALUE, Integer.MAX_VALUE * 3 + 1, 11, 1);
        act(x, 2, 1, Integer.MIN_VALUE + 5, Integer.MIN_VALUE, 21, 2, 1);
        act(x, 4, 2, Integer.MIN_VALUE, (Integer.MAX_VALUE * 3 + 4 - 5) * 2 + 10, 41, 3, 2, 11, 1, 11, 1);
        due("counts what", x.count(5), -1);
        due("counts what", x.count(-1), -1);
    }

    // 29
    static void kinds() {
        KnockPipes x = new KnockPipes();
        for (int i = 0; i < 7; i++) x.noise(i, 0, 9 - i, 1);
        String[] under = {"0", "01", "02", "03", "014", "025", "036"};
        for (int i = 0; i < 7; i++) {
            for (int k = 0; k < 7; k++) due("as", x.as(i, k), under[i].indexOf('0' + k) >= 0 ? 9 - i : -6);
        }
        due("as none", x.as(7, 0), -1);
        due("as none", x.as(-1, 0), -1);
        due("as kind", x.as(0, 7), -1);
        due("as kind", x.as(0, -1), -1);
    }

    // 30, 31, 32
    static void images() {
        KnockPipes x = new KnockPipes();
        due("undo without", x.undo(), -3);
        due("image of nothing", x.image(), 0);
        x.noise(0, 1, 0, 10);
        x.act(0, 2, 3);
        due("undo", x.undo(), 0);
        due("no noises", x.of(0, 0), -1);
        due("the trace is not in it", x.count(4), 3);
        due("the trace is not in it", x.trace(2), 1);
        x.noise(0, 1, 0, 10);
        due("image again", x.image(), 1);
        x.still(0, true);
        due("undo again", x.undo(), 1);
        due("not still", x.of(0, 4), 0);
        x.noise(0, 1, 0, 10);
        due("and the image stays", x.undo(), 1);
        due("one noise", x.count(0), 1);
    }

    static void fullImage() {
        KnockPipes x = new KnockPipes();
        x.day(0, 1);
        x.day(1, 3);
        x.day(2, 7);
        house(x, "air 9;grow 20 p=4");
        feed(x, "warm 1");
        x.noise(1, 4, 2, 33);
        x.noise(2, 5, 3, 34);
        x.still(1, true);
        x.note(2, 3, 4);
        x.note(4, 0, 6);
        due("image", x.image(), 2);
        for (int what = 0; what < 3; what++) x.day(what, ALL);
        feed(x, "5");
        x.house();
        house(x, "air 8;hear 3");
        feed(x, "q");
        x.still(0, true);
        x.still(1, false);
        x.noise(3, 0, 0, 1);
        x.clear();
        x.note(9, 9, 9);
        due("changed", x.told(3) + x.count(0) + x.count(1) + x.count(2) + x.count(3), 8 + 3 + 3 + 1 + 1);
        due("undo", x.undo(), 2);
        due("noises", x.count(0), 2);
        due("houses", x.count(1), 1);
        due("rows", x.count(2), 2);
        due("tape", x.count(3), 6);
        due("air", x.told(3), 9);
        due("still", x.of(0, 4) * 10 + x.of(1, 4), 1);
        due("warmth", x.warmth(0) * 10 + x.warmth(1), 32);
        due("length", x.knocks(0, 0, 0), 6);
        due("fits", x.fits(0), 0b10);
        due("its tape is read", x.house(), 1);
        due("as it was", x.told(0), 1);
        int[] were = {1, 2, 3};
        for (int what = 0; what < 3; what++) due("day", x.day(what, 0), were[what]);
        due("what came behind is gone", x.noise(0, 0, 0, 1), 2);
        due("undo twice", x.undo(), 2);
        due("all the same", x.count(3) + x.count(1), 7);
        x.image();
        x.noise(0, 0, 0, 1);
        due("a new image", x.undo(), 2);
    }

    static void rowsOfAnImage() {
        KnockPipes x = new KnockPipes();
        x.noise(0, 0, 5, 9);
        x.note(2, 5, 1);
        x.note(3, 15, 1);
        due("heard by iron or air", x.fits(0), 0b01);
        x.image();
        x.clear();
        x.note(9, 6, 0);
        x.note(9, 5, 0);
        x.day(0, ALL);
        due("other rows", x.fits(0), 0b11);
        due("louder by iron", x.loud(0, 2, 0), 2);
        x.day(0, minutes(0, 0));
        due("warm", x.warmth(0), 3);
        x.undo();
        due("the rows as they were", x.fits(0), 0b01);
        due("the warmth as it was", x.warmth(0), 0);
        due("loud as it was", x.loud(0, 1, 0) * 10 + x.loud(0, 2, 0), 51);
        x.clear();
        x.note(2, 35, 1);
        x.note(2, 35, 0);
        due("the place and the minute", x.fits(0), 0b01);
    }

    static KnockPipes oneThatKnocks() {
        KnockPipes x = new KnockPipes();
        x.noise(0, 0, 5, 9);
        x.note(0, 5, 1);
        return x;
    }

    /** Each call as the first one that asks what knocks. */
    static void firstCalls() {
        due("odds first", oneThatKnocks().odds(0, 0), 1);
        due("fits first", oneThatKnocks().fits(0), 1);
        due("which first", oneThatKnocks().which(1), 1);
        due("knocks first", oneThatKnocks().knocks(0, 5, 2), 1);
        due("heard first", oneThatKnocks().heard(0, -1), 4);
        due("seems first", oneThatKnocks().seems(5), 0);
        due("least first", oneThatKnocks().least(0, 3), 1);
        due("quiet first", oneThatKnocks().quiet(1), 1);
        due("moved first", oneThatKnocks().moved(0, 0), 3);
        KnockPipes warm = oneThatKnocks();
        warm.day(0, ALL);
        due("moved first, warm", warm.moved(0, 0), 4);
        due("older first", oneThatKnocks().older(), 40);
        due("harm first", oneThatKnocks().harm(0), 36);
        KnockPipes x = oneThatKnocks();
        x.noise(0, 0, 6, 9);
        due("parted first", x.parted(0, 1), 0x40100401L << 5 | 0x40100401L << 6);
        x = oneThatKnocks();
        x.noise(0, 0, 6, 9);
        due("next first", x.next(), 5);
        // one row, one fit: 1 of 1, and 0 of 1
        due("odds of 1 in 1", x.odds(0, 0) * 10 + x.odds(0, 1), 11);
        due("odds of 0 in 1", x.odds(1, 0) * 10 + x.odds(1, 1), 1);
        x = oneThatKnocks();
        house(x, "grow 1 p=9");
        x.moved(0, 3);
        due("what moved asked is gone", x.knocks(0, 5, 2), 1);
        x.day(0, minutes(0, 0));
        x.older();
        due("what older asked is gone", x.warmth(0), 3);
        x.quiet(0);
        due("what quiet asked is gone", x.warmth(0), 3);
    }

    static void everythingFull() {
        KnockPipes x = new KnockPipes();
        // ten clauses on 120 bytes, ten noises, twelve rows
        String text = "grow 5 k=1|k=4;grow 9 n>2&t<9;hold 2 p<4;hold 3 v=3;grow 2 k=7;hold 4 k=7;grow 1 t=99;hear 1;warm 6;air 3";
        due("house", house(x, text), 0);
        x.day(0, minutes(0, 9));
        x.day(1, minutes(2, 3));
        x.day(2, minutes(8, 20));
        for (int i = 0; i < 10; i++) due("noise", x.noise(i % 7, i, i, 40), i);
        for (int i = 0; i < 12; i++) x.note(i % 10, i, x.heard(i % 10, i));
        int all = 0, each = 0;
        for (int i = 0; i < 10; i++) {
            for (int j = 0; j < 10; j++) x.still(j, i != j);
            each += x.heard(4, -1);
        }
        for (int j = 0; j < 10; j++) x.still(j, false);
        for (int m = 0; m < 40; m++) all += x.heard(4, m);
        due("each alone, together", each, all);
        due("the whole day", x.heard(4, -1), all);
        due("the last noise strikes", x.knocks(9, 4, 2), 9);
        due("harm of the last", x.harm(9), 9 * 40);
        int fits = 0;
        for (int i = 0; i < 10; i++) fits += Integer.bitCount(x.fits(i));
        due("odds of the last", x.odds(9, 0) * fits, Integer.bitCount(x.fits(9)) * x.odds(9, 1));
        int most = x.which(0);
        for (int i = 0; i < 10; i++) due("most fits", Integer.bitCount(x.fits(i)) <= Integer.bitCount(x.fits(most)) ? 1 : 0, 1);
        int set = x.which(1);
        due("a set fits", set > 0 && set < 1024 ? 1 : 0, 1);
        for (int j = 0; j < 10; j++) x.still(j, (set >> j & 1) == 0);
        due("no fewer when nothing changes", x.older() >= 0 ? 1 : 0, 1);
        for (int j = 0; j < 10; j++) x.still(j, false);
        due("all to be still", x.least(9, 0) >> 9 & 1, 1);
        due("eased", x.eased(9, 40) >= 0 ? 1 : 0, 1);
        due("quiet: next door, and a noise of kind 0 where no clause holds", x.quiet(1), 1 << 6 | 1 << 7);
        due("seems", x.seems(4) >= 0 ? 1 : 0, 1);
        due("try", x.next() >= 0 ? 1 : 0, 1);
        due("moved", x.moved(9, 9), 0);
        due("image", x.image(), 10);
        due("undo", x.undo(), 10);
    }

    /** No number may make a call throw: all of them on an empty object, and on a full one. */
    static void wildNumbers() {
        int[] wild = {Integer.MIN_VALUE, -41, -2, -1, 0, 1, 6, 9, 10, 11, 12, 39, 40, 41, 99, 100, Integer.MAX_VALUE};
        for (int full = 0; full < 2; full++) {
            for (int a : wild) {
                for (int b : wild) {
                    KnockPipes x = new KnockPipes();
                    if (full == 1) {
                        house(x, "grow 9 (p<9|k=1)&!t=40;hold 0 n>0");
                        x.day(0, minutes(0, 9));
                        for (int i = 0; i < 10; i++) x.noise(i % 7, i, 9 - i, 40);
                        for (int i = 0; i < 12; i++) x.note(i % 10, i, 1);
                    }
                    call(x, a, b);
                    call(x, b, a);
                }
            }
        }
        due("calls with wild numbers come back", 0, 0);
    }

    static void call(KnockPipes x, int a, int b) {
        x.image();
        x.day(a, (long) b << 8);
        x.feed(b * 3L, a);
        x.house();
        x.told(a);
        x.warmth(a);
        x.noise(a, b, b, b);
        x.of(a, b);
        x.still(a, true);
        for (int c = -1; c < 4; c++) x.knocks(a, b, c);
        for (int c = -1; c < 11; c += 4) x.loud(a, c, b);
        x.heard(a, b);
        x.seems(a);
        x.note(a, b, a);
        x.fits(a);
        x.odds(a, b);
        x.which(a);
        x.next();
        x.least(a, b);
        x.eased(a, b);
        x.parted(a, b);
        x.quiet(a);
        x.moved(a, b);
        x.older();
        x.harm(a);
        for (int c = -1; c < 4; c++) x.act(a, c, b);
        x.trace(a);
        x.as(a, b);
        x.count(a);
        x.undo();
        x.clear();
    }
}
