/** Promises 14 to 24 and 27: how many pavings there are, what lies alike, numbers, hills, ways, widows. */
public final class PavingsTest {
    private PavingsTest() {
    }

    public static void main(String[] args) {
        allAsKnown();
        restAndAcross();
        frozenCells();
        moreAndShort();
        rankIsTheNumber();
        hillsRise();
        hillsAgree();
        waysAreFewestTurns("square 4 4;");
        waysAreFewestTurns("square 3 4;");
        waysAreFewestTurns("square 5 2;");
        ways();
        farthestAndLowest();
        lowestOfAllSquares();
        widowsApart();
        Checks.finish("PavingsTest");
    }

    private static void allAsKnown() {
        for (int w = 2; w <= 6; w++) {
            for (int h = 2; h <= 6; h++) {
                CouplesPaving x = Checks.of("square " + w + " " + h + ";");
                Checks.due("all of " + w + " by " + h, x.all(), PavingSentences.KNOWN[w - 2][h - 2]);
            }
        }
        Checks.due("5 by 5 without a corner", Checks.of("square 5 5; hole 4 4;").all(), 192);
        Checks.due("6 by 6 without two corners of one colour", Checks.of("square 6 6; hole 0 0; hole 5 5;").all(), 0);
        Checks.due("a ring", Checks.of("square 3 3; hole 1 1;").all(), 2);
        String diamond = "square 6 6; hole 0 0; hole 1 0; hole 4 0; hole 5 0; hole 0 1; hole 5 1;"
            + "hole 0 4; hole 5 4; hole 0 5; hole 1 5; hole 4 5; hole 5 5;";
        Checks.due("the diamond of three", Checks.of(diamond).all(), 64);
        CouplesPaving x = Checks.of("square 4 4; stone 1 0 0;");
        Checks.due("stones are not looked at", x.all(), 36);
    }

    private static void restAndAcross() {
        CouplesPaving x = Checks.of("stone 1 1 0;");
        // Both cells beside it go up (then 5 ways below) or both down (then 1 way).
        Checks.due("rest", x.rest(), 6);
        Checks.due("across of the stone's cell", x.across(5), 6);
        Checks.due("across of its other cell", x.across(6), 6);
        Checks.due("across of a corner", x.across(0), 1);
        Checks.due("rest with it down", Checks.of("stone 1 1 1;").rest(), 6);
        Checks.due("across of a cell with a stone down", Checks.of("stone 1 1 1;").across(9), 0);
        Checks.due("none is left", Checks.of("stone 1 0 0;stone 0 1 0;").rest(), 0);
        Checks.due("none lies across", Checks.of("stone 1 0 0;stone 0 1 0;").across(1), 0);
        CouplesPaving y = Checks.of("square 3 2; hole 0 0; hole 0 1;");
        Checks.due("across of a hole", y.across(0), -1);
        Checks.due("across of no cell", y.across(6), -1);
        Checks.due("across of no cell", y.across(-1), -1);
        Checks.due("across", y.across(1), 1);
        CouplesPaving whole = new CouplesPaving();
        whole.pave(17);
        Checks.due("rest of a paving", whole.rest(), 1);
    }

    private static void frozenCells() {
        CouplesPaving x = Checks.of("square 4 2; stone 1 0 0;");
        Checks.due("frozen", x.frozen(-1), 6);
        int[] with = {4, -2, -2, 7, 0, 6, 5, 3};
        for (int c = 0; c < 8; c++) {
            Checks.due("frozen(" + c + ")", x.frozen(c), with[c]);
        }
        Checks.due("frozen of no cell", x.frozen(8), -1);
        Checks.due("frozen of no cell", x.frozen(-2), -1);
        CouplesPaving y = Checks.of("square 3 3; hole 1 1; stone 0 0 0;");
        Checks.due("frozen around a hole", y.frozen(-1), 6);
        Checks.due("frozen of a hole", y.frozen(4), -2);
        CouplesPaving none = Checks.of("square 4 2; stone 1 0 0; stone 0 1 0;");
        Checks.due("none of rest, none frozen", none.frozen(-1), 0);
        Checks.due("none of rest, none frozen", none.frozen(3), -2);
        CouplesPaving some = Checks.of("square 5 2; stone 0 0 1; hole 2 0; hole 2 1;");
        Checks.due("a corner alone is frozen", some.frozen(1), 6);
        Checks.due("a block is not", some.frozen(3), -2);
        Checks.due("two cells", some.frozen(-1), 2);
    }

    private static void moreAndShort() {
        CouplesPaving x = Checks.of("square 3 3;");
        Checks.due("more black", x.more(), 1);
        Checks.due("short by one", x.shortBy(), 1);
        CouplesPaving y = Checks.of("square 6 6; hole 0 0; hole 5 5; hole 0 2;");
        Checks.due("more white", y.more(), -3);
        Checks.due("short by three", y.shortBy(), 3);
        CouplesPaving z = Checks.of("square 3 2; stone 1 0 1;");
        Checks.due("as many", z.more(), 0);
        Checks.due("and not short", z.shortBy(), 0);
        CouplesPaving apart = Checks.of("square 4 2; stone 1 0 0; stone 0 1 0;");
        Checks.due("as many of both", apart.more(), 0);
        Checks.due("short all the same", apart.shortBy(), 2);
        CouplesPaving none = Checks.of("square 2 2; stone 0 0 0; stone 0 1 0;");
        Checks.due("no cell, not short", none.shortBy(), 0);
    }

    private static void rankIsTheNumber() {
        for (String text : new String[] {"square 4 4;", "square 5 5; hole 2 2;", "square 2 6;", "square 6 3; hole 0 0; hole 5 0;"}) {
            CouplesPaving x = Checks.of(text);
            int all = x.all();
            int[] before = null;
            for (int i = 0; i < all; i++) {
                x.pave(i);
                Checks.due("rank of " + i, x.rank(), i);
                int[] lying = lying(x);
                if (before != null) {
                    int c = 0;
                    while (lying[c] == before[c]) {
                        c++;
                    }
                    Checks.due("the one ahead lies across at the first unlike cell", before[c], c + 1);
                }
                before = lying;
                if (i % 12 == 11) {
                    x = Checks.of(text);
                }
            }
        }
        CouplesPaving x = Checks.of("square 2 2; stone 0 0 0;");
        Checks.due("no paving lies", x.rank(), -2);
        x.lay(2, 0);
        Checks.due("one lies", x.rank(), 0);
        x.turn(0);
        Checks.due("the other lies", x.rank(), 1);
        CouplesPaving large = Checks.of("square 6 6;");
        large.pave(6727);
        Checks.due("the last of 6 by 6", large.rank(), 6727);
        Checks.due("it lies down at first", large.cell(0, 1), 6);
    }

    private static int[] lying(CouplesPaving x) {
        int[] mates = new int[x.count(0) * x.count(1)];
        for (int c = 0; c < mates.length; c++) {
            mates[c] = x.cell(c, 1);
        }
        return mates;
    }

    private static void hillsRise() {
        CouplesPaving x = Checks.of("square 2 2; stone 0 0 0;");
        Checks.due("no paving lies", x.hill(0, 0), -100);
        x.lay(2, 0);
        int[][] flat = {{0, 1, 0}, {-1, -2, -1}, {0, 1, 0}};
        int[][] upright = {{0, 1, 0}, {-1, 2, -1}, {0, 1, 0}};
        for (int turned = 0; turned < 2; turned++) {
            for (int y = 0; y < 3; y++) {
                for (int i = 0; i < 3; i++) {
                    Checks.due("hill(" + i + ", " + y + ")", x.hill(i, y), turned == 0 ? flat[y][i] : upright[y][i]);
                }
            }
            x.turn(0);
        }
        Checks.due("no such corner", x.hill(3, 0), -100);
        Checks.due("no such corner", x.hill(0, 3), -100);
        Checks.due("no such corner", x.hill(-1, 0), -100);
        Checks.due("no such corner", x.hill(0, Integer.MIN_VALUE), -100);
        CouplesPaving y = Checks.of("square 3 3; hole 1 1;");
        y.pave(0);
        Checks.due("a hole", y.hill(0, 0), -100);
    }

    // Every way from corner to corner must agree with the document, whichever way the hill was reckoned.
    private static void hillsAgree() {
        for (int i = 0; i < 281; i += 7) {
            CouplesPaving x = Checks.of("square 6 4;");
            x.pave(i);
            for (int y = 0; y <= 4; y++) {
                for (int c = 0; c < 6; c++) {
                    boolean over = y > 0 && y < 4 && x.cell(6 * (y - 1) + c, 1) == 6 * y + c;
                    int step = over ? -3 : 1;
                    Checks.due("to the right", x.hill(c + 1, y) - x.hill(c, y), (c + y) % 2 == 0 ? step : -step);
                }
            }
            CouplesPaving z = Checks.of("square 6 4;");
            z.pave(i);
            for (int y = 0; y < 4; y++) {
                for (int c = 0; c <= 6; c++) {
                    boolean over = c > 0 && c < 6 && z.cell(6 * y + c - 1, 1) == 6 * y + c;
                    int step = over ? -3 : 1;
                    Checks.due("down", z.hill(c, y + 1) - z.hill(c, y), (c + y) % 2 == 1 ? step : -step);
                }
            }
        }
    }

    private static void waysAreFewestTurns(String text) {
        int all = Checks.of(text).all();
        for (int i = 0; i < all; i++) {
            int[] far = HillSentences.turnsFrom(text, all, i);
            CouplesPaving x = Checks.of(text);
            x.pave(i);
            int longest = 0;
            for (int j = 0; j < all; j++) {
                Checks.due(text + " way from " + i + " to " + j, x.way(j), far[j]);
                longest = far[j] > far[longest] ? j : longest;
            }
            Checks.due(text + " farthest from " + i, x.farthest(0), longest);
            Checks.due(text + " farthest from " + i + ", how long", x.farthest(1), far[longest]);
        }
    }

    private static void ways() {
        CouplesPaving x = new CouplesPaving();
        Checks.due("no paving lies", x.way(0), -2);
        Checks.due("no such paving is told ahead", x.way(36), -1);
        Checks.due("no such paving", x.way(-1), -1);
        x.pave(5);
        Checks.due("to itself", x.way(5), 0);
        Checks.due("no such paving", x.way(36), -1);
        Checks.due("no such paving", x.way(Integer.MIN_VALUE), -1);
        CouplesPaving y = Checks.of("square 3 3; hole 1 1;");
        y.pave(1);
        Checks.due("holes", y.way(0), -2);
        Checks.due("holes, no such paving", y.way(2), -1);
    }

    private static void farthestAndLowest() {
        CouplesPaving x = Checks.of("square 6 6;");
        Checks.due("no paving lies", x.farthest(0), -2);
        Checks.due("others", x.farthest(2), -1);
        Checks.due("others", x.farthest(-1), -1);
        int low = x.lowest(0);
        int depth = x.lowest(1);
        x.pave(low);
        int sum = 0;
        for (int i = 0; i < 49; i++) {
            sum += x.hill(i % 7, i / 7);
        }
        Checks.due("the hills of the lowest", sum, depth);
        Checks.due("the way back", x.way(low), 0);
        int far = x.farthest(1);
        Checks.due("the way there", x.way(x.farthest(0)), far);
        x.pave(x.farthest(0));
        Checks.due("and back", x.way(low), far);
        Checks.due("nothing is farther from the highest", x.farthest(0) * 1000 + x.farthest(1), low * 1000 + far);
        Checks.due("others", x.lowest(2), -100000);
        Checks.due("others", x.lowest(-1), -100000);
        Checks.due("holes", Checks.of("square 3 3; hole 1 1;").lowest(0), -100000);
        Checks.due("no paving", Checks.of("square 5 5;").lowest(1), -100000);
        CouplesPaving y = Checks.of("square 3 3; hole 1 1;");
        y.pave(0);
        Checks.due("holes", y.farthest(0), -2);
        Checks.due("holes, others", y.farthest(5), -1);
        CouplesPaving z = Checks.of("square 2 2; stone 0 0 1;");
        Checks.due("a paving need not lie", z.lowest(0) * 10 + z.lowest(1), -2);
    }

    private static void lowestOfAllSquares() {
        for (int w = 2; w <= 5; w++) {
            for (int h = 2; h <= 4; h++) {
                CouplesPaving x = Checks.of("square " + w + " " + h + ";");
                int least = -100000;
                int which = -100000;
                for (int i = 0; i < x.all(); i++) {
                    CouplesPaving y = new CouplesPaving();
                    Checks.read(y, "square " + w + " " + h + ";");
                    y.pave(i);
                    int sum = 0;
                    for (int c = 0; c < (w + 1) * (h + 1); c++) {
                        sum += y.hill(c % (w + 1), c / (w + 1));
                    }
                    if (which < 0 || sum < least) {
                        least = sum;
                        which = i;
                    }
                }
                Checks.due("lowest of " + w + " by " + h, x.lowest(0), which);
                Checks.due("lowest of " + w + " by " + h + ", how much", x.lowest(1), least);
            }
        }
    }

    private static void widowsApart() {
        CouplesPaving x = Checks.of("square 3 3; hole 0 0; stone 1 1 0;");
        Checks.due("a hole", x.widows(0, 1), -1);
        Checks.due("a hole", x.widows(1, 0), -1);
        Checks.due("one and the same", x.widows(1, 1), -1);
        Checks.due("no such cell", x.widows(1, 9), -1);
        Checks.due("no such cell", x.widows(-1, 1), -1);
        Checks.due("stones are not looked at", x.widows(4, 5), 1);
        Checks.due("of one colour", x.widows(1, 3), 0);
        CouplesPaving y = Checks.of("square 4 4;");
        Checks.due("side by side", y.widows(0, 1), 18);
        Checks.due("either way round", y.widows(1, 0), 18);
        Checks.due("two corners of one colour", y.widows(0, 15), 0);
        Checks.due("two corners of both", Checks.of("square 3 2;").widows(0, 3), 2);
        Checks.due("all but two are holes", Checks.of("square 2 2; hole 0 0; hole 1 1;").widows(1, 2), 1);
    }
}
