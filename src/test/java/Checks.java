import java.nio.charset.StandardCharsets;
import java.util.Arrays;

/** What all tests of the project share: counting wrong answers, feeding texts, and seeing that nothing happened. */
final class Checks {
    private static int wrong = 0;
    private static int made = 0;
    private static boolean quiet = false;

    private Checks() {
    }

    static void due(String call, long got, long want) {
        made++;
        if (got != want) {
            wrong++;
            say(call + " answered " + got + ", due is " + want);
        }
    }

    static void due(String call, boolean got, boolean want) {
        due(call, got ? 1 : 0, want ? 1 : 0);
    }

    static void due(String call, int[] got, int[] want) {
        due(call + ": " + Arrays.toString(got) + " for " + Arrays.toString(want), Arrays.equals(got, want), true);
    }

    static void say(String words) {
        if (!quiet && wrong <= 50) {
            System.out.println(words);
        }
    }

    /** No words for what is wrong: for those who only ask which tests fail. */
    static void beQuiet() {
        quiet = true;
    }

    static int wrongSoFar() {
        return wrong;
    }

    static void finish(String test) {
        System.out.println(test + ": " + made + " checks, " + wrong + " wrong");
        if (wrong != 0 || made == 0) {
            System.exit(1);
        }
    }

    /** Feeds a text of any length by twenties and takes the filling back. */
    static void feed(CouplesPaving x, String text) {
        byte[] bytes = text.getBytes(StandardCharsets.ISO_8859_1);
        int[] fives = fives(bytes);
        for (int i = 0; i < fives.length; i += 5) {
            x.feed(fives[i], fives[i + 1], fives[i + 2], fives[i + 3], fives[i + 4]);
        }
        x.back(fives.length * 4 - bytes.length);
    }

    static int[] fives(byte[] bytes) {
        int[] ints = new int[(bytes.length + 19) / 20 * 5];
        for (int i = 0; i < ints.length * 4; i++) {
            int b = i < bytes.length ? bytes[i] & 255 : ' ';
            ints[i / 4] |= b << 24 - 8 * (i % 4);
        }
        return ints;
    }

    static int read(CouplesPaving x, String text) {
        feed(x, text);
        return x.read();
    }

    static CouplesPaving of(String text) {
        CouplesPaving x = new CouplesPaving();
        due("read of " + text, read(x, text), 0);
        return x;
    }

    /** A new object reads the text without a fault. */
    static void sound(String text) {
        CouplesPaving x = new CouplesPaving();
        due("read of " + text, read(x, text), 0);
        due("place of " + text, x.place(), -1);
    }

    /** A new object reads the text with this fault at this place. */
    static void faulty(String text, int fault, int place) {
        CouplesPaving x = new CouplesPaving();
        due("read of " + text, read(x, text), fault);
        due("place of " + text, x.place(), place);
    }

    /** All that can be seen of what goes on, in some 60 to 150 calls: an object answers 512. */
    static int[] state(CouplesPaving x) {
        int cells = x.count(0) * x.count(1);
        int bits = x.count(13);
        int[] seen = new int[17 + cells + 18 * 6];
        for (int what = 0; what < 17; what++) {
            seen[what] = x.count(what);
        }
        for (int c = 0; c < cells; c++) {
            seen[17 + c] = x.cell(c, 2);
        }
        for (int i = 0; i < 18 * 6; i++) {
            seen[17 + cells + i] = (bits >> i / 6 & 1) == 0 ? -2 : x.stone(i / 6, i % 6);
        }
        return seen;
    }

    static void sameState(String after, CouplesPaving x, int[] before) {
        due("what goes on after " + after, state(x), before);
    }

    /** The other cells of all cells' stones, in order. */
    static int[] mates(CouplesPaving x) {
        int[] mates = new int[x.count(0) * x.count(1)];
        for (int c = 0; c < mates.length; c++) {
            mates[c] = x.cell(c, 1);
        }
        return mates;
    }
}
