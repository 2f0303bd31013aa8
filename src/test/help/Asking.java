import java.io.IOException;
import java.nio.charset.StandardCharsets;
import java.nio.file.Files;
import java.nio.file.Path;

/** What the tests by hand share: texts onto tapes, answers that are due, and the sentence that is tried. */
abstract class Asking {
    static final int NONE = -1, BAD = -2, STATE = -3, FULL = -4, NOBODY = -5, OTHER_KIND = -6;
    static final long NO = Long.MIN_VALUE;
    static final int LEAST_INT = Integer.MIN_VALUE, MOST_INT = Integer.MAX_VALUE;
    /** Numbers that stand in no range of the document. */
    static final int[] WILD = {-3, -41, 128, 1000, LEAST_INT, LEAST_INT + 1, MOST_INT};
    static final long ALL = minutes(0, 39);
    static final int WORST_ANSWERS_SHOWN = 200;

    private static final String[] FOR_ALL = {"## What it is", "## The public face", "## Terms", "## Not promised"};

    private static int wrong = 0;
    private static int checked = 0;
    private static int sentences = 0;
    private static int checkedBefore = 0;
    private static String sentence = "";
    private static String doc = "";

    static void due(String call, long got, long want) {
        checked++;
        if (got != want) isWrong(call + " answered " + got + ", due is " + want);
    }

    private static void isWrong(String what) {
        wrong++;
        if (wrong <= WORST_ANSWERS_SHOWN) System.out.println((sentence.isEmpty() ? "" : "[" + sentence + "] ") + what);
    }

    /** What follows tries these words of the document; they must stand under the promise, or where the document speaks of all. */
    static void says(int promise, String words) {
        sentenceEnds();
        sentence = promise + " " + words;
        sentences++;
        checkedBefore = checked;
        boolean stands = part("## Promise " + promise + ":").contains(words);
        for (String heading : FOR_ALL) stands |= part(heading).contains(words);
        if (!stands) isWrong("the document does not say so");
    }

    private static void sentenceEnds() {
        if (!sentence.isEmpty() && checked == checkedBefore) isWrong("nothing tries it");
        sentence = "";
    }

    /** The document under a heading, on one line. */
    private static String part(String heading) {
        if (doc.isEmpty()) {
            try {
                doc = Files.readString(Path.of("../shared/DOC.md"), StandardCharsets.UTF_8).replaceAll("\\s+", " ");
            } catch (IOException e) {
                throw new IllegalStateException(e);
            }
        }
        int from = doc.indexOf(heading);
        if (from < 0) return "";
        int to = doc.indexOf(" ## ", from);
        return doc.substring(from, to < 0 ? doc.length() : to);
    }

    static void end(String what) {
        sentenceEnds();
        String of = sentences == 0 ? "" : " of " + sentences + " sentences";
        System.out.println(wrong == 0 ? what + ": " + checked + " answers" + of + " are as due"
            : what + ": " + wrong + " answers are not as due");
        if (wrong != 0) System.exit(1);
    }

    // ---- houses

    /** Feeds a text, eight bytes at a time, so that a long one takes few calls. */
    static void feed(KnockPipes x, String text) {
        for (int at = 0; at < text.length(); at += 8) {
            int n = Math.min(8, text.length() - at);
            x.feed(word(text.substring(at, at + n)), n);
        }
    }

    /** The signs of a text as bytes of one number. */
    static long word(String text) {
        long w = 0;
        for (int i = 0; i < text.length(); i++) w = w << 8 | text.charAt(i) & 255;
        return w;
    }

    static int house(KnockPipes x, String text) {
        feed(x, text);
        return x.house();
    }

    /** A new object in this house. */
    static KnockPipes in(String text) {
        KnockPipes x = new KnockPipes();
        due("house of '" + text + "'", house(x, text), 0);
        return x;
    }

    /** What house() answers of a text on a new object. */
    static void read(String text, int want) {
        due("house of '" + text + "'", house(new KnockPipes(), text), want);
    }

    static void stands(String text) {
        read(text, 0);
    }

    static void faultAt(int place, String text) {
        read(text, -10 - place);
    }

    // ---- days

    static long minutes(int from, int to) {
        long bits = 0;
        for (int m = from; m <= to; m++) bits |= 1L << m;
        return bits;
    }

    static long at(int... minutes) {
        long bits = 0;
        for (int m : minutes) bits |= 1L << m;
        return bits;
    }

    /** The minutes in which a noise knocks, as bits; it takes forty calls. */
    static long knocking(KnockPipes x, int noise) {
        long bits = 0;
        for (int m = 0; m < 40; m++) if (x.knocks(noise, m, 2) > 0) bits |= 1L << m;
        return bits;
    }
}
