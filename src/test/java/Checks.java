import java.nio.charset.StandardCharsets;

/** What all tests of the project share: counting wrong answers, and feeding texts. */
final class Checks {
    private static int wrong = 0;
    private static int made = 0;

    private Checks() {
    }

    static void due(String call, long got, long want) {
        made++;
        if (got != want) {
            wrong++;
            if (wrong <= 50) {
                System.out.println(call + " answered " + got + ", due is " + want);
            }
        }
    }

    static void due(String call, boolean got, boolean want) {
        due(call, got ? 1 : 0, want ? 1 : 0);
    }

    static int wrongSoFar() {
        return wrong;
    }

    static void finish(String test) {
        System.out.println(test + ": " + made + " checks, " + wrong + " wrong");
        if (wrong != 0 || made == 0) {
            System.exit(1);
        }
    }

    /** Feeds a text of any length by twenties and takes the filling back. */
    static void feed(CouplesPaving x, String text) {
        byte[] bytes = text.getBytes(StandardCharsets.ISO_8859_1);
        int[] fives = fives(bytes);
        for (int i = 0; i < fives.length; i += 5) {
            x.feed(fives[i], fives[i + 1], fives[i + 2], fives[i + 3], fives[i + 4]);
        }
        x.back(fives.length * 4 - bytes.length);
    }

    static int[] fives(byte[] bytes) {
        int[] ints = new int[(bytes.length + 19) / 20 * 5];
        for (int i = 0; i < ints.length * 4; i++) {
            int b = i < bytes.length ? bytes[i] & 255 : ' ';
            ints[i / 4] |= b << 24 - 8 * (i % 4);
        }
        return ints;
    }

    static int read(CouplesPaving x, String text) {
        feed(x, text);
        return x.read();
    }

    static CouplesPaving of(String text) {
        CouplesPaving x = new CouplesPaving();
        due("read of " + text, read(x, text), 0);
        return x;
    }
}
