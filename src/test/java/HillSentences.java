import java.util.ArrayDeque;
import java.util.Arrays;
import java.util.Deque;

/** Sentences on hills, ways and turns: part III, promises 21 to 26. */
final class HillSentences {
    private static final String HOLES_ALONE = "square 2 2; hole 0 0; hole 1 0; hole 0 1; hole 1 1;";
    private static final int[] NEITHER = {-1, -2, 2, 3, 100, Integer.MAX_VALUE, Integer.MIN_VALUE};

    private HillSentences() {
    }

    static void tell(Sentences s) {
        tellHills(s);
        tellWays(s);
        s.promise(21);
        s.of("HILL of a corner, of the PAVING that lies (may be below 0);", HillSentences::hillsOfWhatLies);
        s.of("-100: HOLES, no PAVING lies, no such corner.", HillSentences::noHill);
        s.promise(22);
        s.of("WAY;", HillSentences::ways);
        s.of("-2: HOLES, no PAVING lies;", HillSentences::noWay);
        s.of("NONE: no such PAVING.", HillSentences::wayToNoPaving);
        s.promise(23);
        s.of("FARTHEST: what 0 which, 1 how long;", HillSentences::farthestOnes);
        s.of("-2: HOLES, no PAVING lies;", HillSentences::nothingFarthest);
        s.of("NONE for others.", HillSentences::farthestOfOthers);
        s.promise(24);
        s.of("LOWEST: what 0 which, 1 how much (may be below 0);", HillSentences::lowestOnes);
        s.of("-100000: HOLES, there is no PAVING, for others.", HillSentences::nothingLowest);
        s.promise(25);
        s.of("TURNS: how many (i NONE), else the i-th;", HillSentences::turnsByNumber);
        s.of("NONE: not so many, i below NONE.", HillSentences::notSoManyTurns);
        s.promise(26);
        s.of("CHEAPEST: what 0 which, 1 how much;", HillSentences::cheapestOnes);
        s.of("-2: none can be TURNED.", HillSentences::nothingCheapest);
        s.of("NONE for others.", HillSentences::cheapestOfOthers);
    }

    private static void tellHills(Sentences s) {
        s.terms(21);
        s.of("HILL of a corner (X 0 .. WIDE, Y 0 .. HIGH), of a PAVING of a SQUARE without HOLES: of the corner 0, 0 it is 0;",
            HillSentences::cornersOfHills);
        s.of("one corner to the right it is 1 more if the cell right below that way is BLACK (X + Y of the corner left of it even),"
            + " else 1 less;", HillSentences::oneToTheRight);
        s.of("if a STONE DOWN lies over that way (of the cell above it and that below) 3 less, 3 more instead;",
            HillSentences::overStonesDown);
        s.of("one corner down it is 1 more if X + Y of the corner above it is odd, else 1 less;", HillSentences::oneDown);
        s.of("if a STONE ACROSS lies over that way (of the cells left and right of it) 3 less, 3 more instead.",
            HillSentences::overStonesAcross);
    }

    private static void tellWays(Sentences s) {
        s.terms(22);
        s.of("WAY from the PAVING that lies to the i-th: by how much HILLS of both differ, all corners added, by 4",
            HillSentences::howMuchHillsDiffer);
        s.of("(these are the fewest TURNS from one to the other).", HillSentences::fewestTurns);
        s.terms(23);
        s.of("FARTHEST: the PAVING with the longest WAY, of alike ones the least number; how long.", HillSentences::theLongestWay);
        s.terms(24);
        s.of("LOWEST: the PAVING, of a SQUARE without HOLES, whose HILLS of all corners, added, are least,"
            + " of alike ones the least number; how much.", HillSentences::theLeastHills);
        s.terms(25);
        s.of("TURNS: BLOCKS that can be TURNED, by the number of their LEFT TOP cell: how many; the i-th.",
            HillSentences::blocksByTheirCell);
        s.terms(26);
        s.of("CHEAPEST: the one of these for which least is paid, of alike ones the first; how much.", HillSentences::leastIsPaid);
    }

    // ---- hills

    private static CouplesPaving paved(String text, int i) {
        CouplesPaving x = Checks.of(text);
        Checks.due(text + " pave(" + i + ")", x.pave(i), true);
        return x;
    }

    private static void cornersOfHills() {
        for (int wide = 2; wide <= 6; wide++) {
            for (int high = 2; high <= 6; high += wide % 2 == 0 ? 1 : 2) {
                CouplesPaving x = paved("square " + wide + " " + high + ";", 1);
                Checks.due("of the corner 0, 0", x.hill(0, 0), 0);
                for (int y = 0; y <= high; y++) {
                    Checks.due("one too far right", x.hill(wide + 1, y), -100);
                    Checks.due("the last to the right", x.hill(wide, y) > -100, true);
                }
                for (int c = 0; c <= wide; c++) {
                    Checks.due("one too far down", x.hill(c, high + 1), -100);
                    Checks.due("the last down", x.hill(c, high) > -100, true);
                }
            }
        }
    }

    /** Whether a stone of this cell and of the one that many numbers on lies there. */
    private static boolean lies(int[] mates, int cell, int on) {
        return cell >= 0 && cell + on < mates.length && mates[cell] == cell + on;
    }

    private interface Ways {
        /** Sees the way from a corner to the next: whether a stone lies over it, and how much higher the next is. */
        void see(int x, int y, boolean over, int rise);
    }

    private static void allWays(boolean right, Ways seen) {
        String[] squares = {"square 6 4;", "square 3 4;", "square 4 5;", "square 2 3;"};
        int[] wides = {6, 3, 4, 2};
        for (int t = 0; t < squares.length; t++) {
            int wide = wides[t];
            int all = Checks.of(squares[t]).all();
            for (int i = 0; i < all; i += 1 + all / 12) {
                CouplesPaving x = paved(squares[t], i);
                int[] mates = Checks.mates(x);
                int high = mates.length / wide;
                for (int y = 0; y <= high - (right ? 0 : 1); y++) {
                    for (int c = 0; c <= wide - (right ? 1 : 0); c++) {
                        boolean over = right ? lies(mates, (y - 1) * wide + c, wide)
                            : c > 0 && c < wide && lies(mates, y * wide + c - 1, 1);
                        int next = right ? x.hill(c + 1, y) : x.hill(c, y + 1);
                        seen.see(c, y, over, next - x.hill(c, y));
                    }
                }
            }
        }
    }

    private static void oneToTheRight() {
        allWays(true, (x, y, over, rise) -> {
            if (!over) {
                Checks.due("to the right of " + x + ", " + y, rise, (x + y) % 2 == 0 ? 1 : -1);
            }
        });
    }

    private static void overStonesDown() {
        allWays(true, (x, y, over, rise) -> {
            if (over) {
                Checks.due("over a STONE DOWN, right of " + x + ", " + y, rise, (x + y) % 2 == 0 ? -3 : 3);
            }
        });
    }

    private static void oneDown() {
        allWays(false, (x, y, over, rise) -> {
            if (!over) {
                Checks.due("down from " + x + ", " + y, rise, (x + y) % 2 == 1 ? 1 : -1);
            }
        });
    }

    private static void overStonesAcross() {
        allWays(false, (x, y, over, rise) -> {
            if (over) {
                Checks.due("over a STONE ACROSS, down from " + x + ", " + y, rise, (x + y) % 2 == 1 ? -3 : 3);
            }
        });
    }

    private static void hillsOfWhatLies() {
        CouplesPaving x = Checks.of("square 2 2; stone 0 0 0; stone 0 1 0;");
        int[][][] due = {{{0, 1, 0}, {-1, -2, -1}, {0, 1, 0}}, {{0, 1, 0}, {-1, 2, -1}, {0, 1, 0}}};
        for (int turned = 0; turned < 4; turned++) {
            for (int y = 0; y < 3; y++) {
                for (int c = 0; c < 3; c++) {
                    Checks.due("turned " + turned + " times: hill(" + c + ", " + y + ")", x.hill(c, y), due[turned % 2][y][c]);
                }
            }
            x.turn(0);
        }
        CouplesPaving large = paved("square 6 6;", 0);
        Checks.due("below 0", large.hill(1, 1) * 10 + large.hill(6, 3), -21);
        // One down the left edge, then right over two STONES DOWN.
        CouplesPaving down = paved("square 6 6;", 6727);
        Checks.due("along a row that STONES DOWN lie over", down.hill(1, 1) * 10 + down.hill(2, 1), 19);
    }

    private static void noHill() {
        CouplesPaving x = Checks.of("square 3 2;");
        Checks.due("nothing lies", x.hill(0, 0), -100);
        x.lay(0, 0);
        x.lay(3, 0);
        Checks.due("not all lie", x.hill(0, 0), -100);
        x.lay(2, 1);
        Checks.due("a PAVING lies", x.hill(0, 0), 0);
        for (int far : new int[] {-1, -2, 7, 100, Integer.MAX_VALUE, Integer.MIN_VALUE}) {
            Checks.due("hill(" + far + ", 0)", x.hill(far, 0), -100);
            Checks.due("hill(0, " + far + ")", x.hill(0, far), -100);
        }
        Checks.due("X WIDE and one", x.hill(4, 0), -100);
        Checks.due("Y HIGH and one", x.hill(0, 3), -100);
        Checks.due("X WIDE, Y HIGH", x.hill(3, 2) > -100, true);
        x.lift(0);
        Checks.due("one is lifted", x.hill(0, 0), -100);
        CouplesPaving hole = paved("square 3 3; hole 1 1;", 0);
        Checks.due("a HOLE", hole.hill(0, 0), -100);
        Checks.due("HOLES alone", Checks.of(HOLES_ALONE).hill(0, 0), -100);
        Checks.due("a SQUARE that can not be PAVED", Checks.of("square 3 3;").hill(0, 0), -100);
    }

    // ---- ways

    private static int[][] hills(CouplesPaving x) {
        int[][] hills = new int[x.count(1) + 1][x.count(0) + 1];
        for (int y = 0; y < hills.length; y++) {
            for (int c = 0; c < hills[0].length; c++) {
                hills[y][c] = x.hill(c, y);
            }
        }
        return hills;
    }

    private static int apart(int[][] p, int[][] q) {
        int sum = 0;
        for (int y = 0; y < p.length; y++) {
            for (int x = 0; x < p[0].length; x++) {
                sum += Math.abs(p[y][x] - q[y][x]);
            }
        }
        return sum;
    }

    private static int[][][] allHills(String text) {
        int[][][] all = new int[Checks.of(text).all()][][];
        for (int i = 0; i < all.length; i++) {
            all[i] = hills(paved(text, i));
        }
        return all;
    }

    private static void howMuchHillsDiffer() {
        for (String text : new String[] {"square 4 4;", "square 3 4;", "square 6 2;", "square 2 2;"}) {
            int[][][] all = allHills(text);
            for (int i = 0; i < all.length; i++) {
                CouplesPaving x = paved(text, i);
                for (int j = 0; j < all.length; j++) {
                    int sum = apart(all[i], all[j]);
                    Checks.due(text + " is a number of fours", sum % 4, 0);
                    Checks.due(text + " from " + i + " way(" + j + ")", x.way(j), sum / 4);
                }
            }
        }
        CouplesPaving large = paved("square 6 6;", 0);
        Checks.due("from all ACROSS to all DOWN", large.way(6727), apart(hills(large), hills(paved("square 6 6;", 6727))) / 4);
    }

    /** From one paving to each by how many turns at least. */
    static int[] turnsFrom(String text, int all, int start) {
        int[] far = new int[all];
        Arrays.fill(far, -1);
        far[start] = 0;
        Deque<Integer> open = new ArrayDeque<>();
        open.add(start);
        while (!open.isEmpty()) {
            int i = open.remove();
            CouplesPaving x = paved(text, i);
            int many = x.turns(-1);
            for (int t = 0; t < many; t++) {
                x.turn(x.turns(t));
                int j = x.rank();
                x.undo();
                if (far[j] < 0) {
                    far[j] = far[i] + 1;
                    open.add(j);
                }
            }
        }
        return far;
    }

    private static void fewestTurns() {
        for (String text : new String[] {"square 4 4;", "square 3 4;", "square 5 2;"}) {
            int all = Checks.of(text).all();
            for (int i = 0; i < all; i += 3) {
                int[] far = turnsFrom(text, all, i);
                CouplesPaving x = paved(text, i);
                for (int j = 0; j < all; j++) {
                    Checks.due(text + " from " + i + " way(" + j + ")", x.way(j), far[j]);
                }
            }
        }
    }

    private static void ways() {
        CouplesPaving x = Checks.of("square 3 2; stone 0 0 0; stone 0 1 0; stone 2 0 1;");
        int[][] due = {{0, 2, 1}, {1, 1, 0}, {2, 0, 1}};
        int[] blocks = {0, 1, -1};
        for (int step = 0; step < 3; step++) {
            for (int i = 0; i < 3; i++) {
                Checks.due("after " + step + " TURNS: way(" + i + ")", x.way(i), due[step][i]);
            }
            x.turn(blocks[step]);
        }
        for (int i = 0; i < 6728; i += 961) {
            CouplesPaving large = paved("square 6 6;", i);
            Checks.due("to itself", large.way(i), 0);
            int there = large.way(6727 - i);
            Checks.due("there and back", paved("square 6 6;", 6727 - i).way(i), there);
        }
    }

    private static void noWay() {
        CouplesPaving x = Checks.of("square 2 2;");
        Checks.due("nothing lies", x.way(0), -2);
        x.lay(0, 0);
        Checks.due("not all lie", x.way(1), -2);
        x.lay(2, 0);
        Checks.due("a PAVING lies", x.way(1), 1);
        CouplesPaving hole = paved("square 3 3; hole 1 1;", 0);
        Checks.due("a HOLE", hole.way(0), -2);
        Checks.due("a HOLE", hole.way(1), -2);
        Checks.due("HOLES alone", Checks.of(HOLES_ALONE).way(0), -2);
    }

    private static void wayToNoPaving() {
        String[] texts = {"square 2 2;", "square 6 6;", "square 3 3; hole 1 1;", "square 3 3;", HOLES_ALONE};
        int[] all = {2, 6728, 2, 0, 1};
        for (int i = 0; i < texts.length; i++) {
            CouplesPaving x = Checks.of(texts[i]);
            for (int round = 0; round < 2; round++) {
                Checks.due(texts[i] + " way(" + all[i] + ")", x.way(all[i]), -1);
                Checks.due(texts[i] + " one more", x.way(all[i] + 1), -1);
                Checks.due(texts[i] + " below 0", x.way(-1), -1);
                Checks.due(texts[i] + " the least int", x.way(Integer.MIN_VALUE), -1);
                Checks.due(texts[i] + " the most", x.way(Integer.MAX_VALUE), -1);
                x.pave(all[i] - 1);
            }
        }
        Checks.due("the last", paved("square 2 2;", 1).way(1), 0);
    }

    private static void theLongestWay() {
        boolean alike = false;
        for (String text : new String[] {"square 4 4;", "square 3 4;", "square 6 2;", "square 2 2;"}) {
            int all = Checks.of(text).all();
            for (int i = 0; i < all; i++) {
                CouplesPaving x = paved(text, i);
                int which = -1;
                int longest = -1;
                for (int j = 0; j < all; j++) {
                    int way = x.way(j);
                    alike |= way == longest;
                    if (way > longest) {
                        which = j;
                        longest = way;
                    }
                }
                Checks.due(text + " from " + i + ": which", x.farthest(0), which);
                Checks.due(text + " from " + i + ": how long", x.farthest(1), longest);
            }
        }
        Checks.due("some were alike", alike, true);
    }

    private static void farthestOnes() {
        CouplesPaving x = paved("square 2 2;", 0);
        Checks.due("of two the other", x.farthest(0) * 10 + x.farthest(1), 11);
        x.turn(0);
        Checks.due("and back", x.farthest(0) * 10 + x.farthest(1), 1);
        // From the middle one of three both others are as far: the least number.
        CouplesPaving middle = paved("square 3 2;", 2);
        Checks.due("of alike ones the least", middle.farthest(0) * 10 + middle.farthest(1), 1);
        CouplesPaving large = paved("square 6 6;", 3000);
        int which = large.farthest(0);
        Checks.due("of 6 by 6", large.way(which), large.farthest(1));
        for (int i = 0; i < 400; i++) {
            Checks.due("none is farther", large.way(i * 16 + 7) <= large.farthest(1), true);
            if (i % 200 == 199) {
                large = paved("square 6 6;", 3000);
            }
        }
    }

    private static void nothingFarthest() {
        CouplesPaving x = Checks.of("square 2 2;");
        Checks.due("nothing lies", x.farthest(0) * 10 + x.farthest(1), -22);
        x.lay(0, 1);
        Checks.due("not all lie", x.farthest(0) * 10 + x.farthest(1), -22);
        CouplesPaving hole = paved("square 3 3; hole 1 1;", 1);
        Checks.due("a HOLE", hole.farthest(0) * 10 + hole.farthest(1), -22);
        CouplesPaving holes = Checks.of(HOLES_ALONE);
        Checks.due("HOLES alone", holes.farthest(0) * 10 + holes.farthest(1), -22);
    }

    private static void farthestOfOthers() {
        CouplesPaving x = paved("square 2 2;", 0);
        CouplesPaving none = Checks.of("square 2 2;");
        CouplesPaving hole = paved("square 3 3; hole 1 1;", 1);
        for (int what : NEITHER) {
            Checks.due("farthest(" + what + ")", x.farthest(what), -1);
            Checks.due("where no PAVING lies: farthest(" + what + ")", none.farthest(what), -1);
            Checks.due("with a HOLE: farthest(" + what + ")", hole.farthest(what), -1);
        }
    }

    private static void theLeastHills() {
        for (String text : new String[] {"square 4 4;", "square 3 4;", "square 4 3;", "square 6 2;", "square 2 5;", "square 5 4;"}) {
            int[][][] all = allHills(text);
            int which = -1;
            int least = Integer.MAX_VALUE;
            for (int i = 0; i < all.length; i++) {
                int sum = 0;
                for (int[] row : all[i]) {
                    for (int hill : row) {
                        sum += hill;
                    }
                }
                if (sum < least) {
                    which = i;
                    least = sum;
                }
            }
            CouplesPaving x = Checks.of(text);
            Checks.due(text + " LOWEST: which", x.lowest(0), which);
            Checks.due(text + " LOWEST: how much", x.lowest(1), least);
        }
    }

    private static void lowestOnes() {
        CouplesPaving two = Checks.of("square 2 2;");
        Checks.due("of 2 by 2", two.lowest(0), 0);
        Checks.due("below 0", two.lowest(1), -2);
        CouplesPaving three = Checks.of("square 3 2;");
        Checks.due("of 3 by 2", three.lowest(0) * 10 + three.lowest(1), 2);
        two.pave(1);
        Checks.due("what lies is not looked at", two.lowest(0) * 10 + two.lowest(1), -2);
        CouplesPaving large = Checks.of("square 6 6;");
        large.pave(large.lowest(0));
        int sum = 0;
        for (int[] row : hills(large)) {
            for (int hill : row) {
                sum += hill;
            }
        }
        Checks.due("of 6 by 6", large.lowest(1), sum);
        Checks.due("far below 0", sum < -50, true);
    }

    private static void nothingLowest() {
        String[] texts = {"square 3 3;", "square 5 5;", "square 3 3; hole 1 1;", "square 2 2; hole 0 0; hole 1 0;",
            "square 2 2; hole 0 0;", HOLES_ALONE};
        for (String text : texts) {
            CouplesPaving x = Checks.of(text);
            x.pave(0);
            Checks.due(text + " lowest(0)", x.lowest(0), -100000);
            Checks.due(text + " lowest(1)", x.lowest(1), -100000);
        }
        CouplesPaving y = Checks.of("square 2 2;");
        for (int what : NEITHER) {
            Checks.due("lowest(" + what + ")", y.lowest(what), -100000);
        }
    }

    // ---- turns

    private static void blocksByTheirCell() {
        for (String text : new String[] {"square 6 6;", "square 5 4;", "square 3 3; hole 1 1;", "square 4 4; hole 0 0; hole 1 0;"}) {
            int all = Checks.of(text).all();
            for (int i = 0; i < all; i += 1 + all / 10) {
                CouplesPaving x = paved(text, i);
                x.lift(i % 5);
                int[] mates = Checks.mates(x);
                int wide = x.count(0);
                int many = 0;
                for (int c = 0; c + wide < mates.length; c++) {
                    boolean across = c % wide < wide - 1 && mates[c] == c + 1 && mates[c + wide] == c + wide + 1;
                    boolean down = c % wide < wide - 1 && mates[c] == c + wide && mates[c + 1] == c + wide + 1;
                    if (across || down) {
                        Checks.due(text + " PAVING " + i + " turns(" + many + ")", x.turns(many), c);
                        many++;
                    }
                }
                Checks.due(text + " PAVING " + i + " turns(NONE)", x.turns(-1), many);
            }
        }
    }

    private static void turnsByNumber() {
        CouplesPaving x = Checks.of("");
        Checks.due("none", x.turns(-1), 0);
        x.pave(0);
        int[] due = {0, 2, 4, 6, 8, 10};
        Checks.due("how many", x.turns(-1), 6);
        for (int i = 0; i < 6; i++) {
            Checks.due("turns(" + i + ")", x.turns(i), due[i]);
        }
        CouplesPaving most = paved("square 6 6;", 0);
        Checks.due("15 of 6 by 6", most.turns(-1) * 100 + most.turns(14), 1528);
    }

    private static void notSoManyTurns() {
        CouplesPaving x = Checks.of("square 4 2;");
        Checks.due("the first of none", x.turns(0), -1);
        x.pave(0);
        Checks.due("the last", x.turns(1), 2);
        for (int i : new int[] {2, 3, 100, Integer.MAX_VALUE, -2, -3, Integer.MIN_VALUE}) {
            Checks.due("turns(" + i + ")", x.turns(i), -1);
        }
        CouplesPaving none = Checks.of(HOLES_ALONE);
        Checks.due("of HOLES alone", none.turns(-1) * 10 + none.turns(0), -1);
    }

    private static void leastIsPaid() {
        CouplesPaving x = Checks.of("asks = if top < 2 then 5 else 3 - across;");
        x.pave(0);
        // At 0, 2, 4, 6: 10, 10, 7, 7; at 8, 10: 4.
        Checks.due("of alike ones the first", x.cheapest(0) * 10 + x.cheapest(1), 84);
        x.turn(8);
        Checks.due("then the other", x.cheapest(0) * 10 + x.cheapest(1), 104);
        x.turn(10);
        Checks.due("both DOWN now", x.cheapest(0) * 10 + x.cheapest(1), 86);
        CouplesPaving held = paved("square 4 2; asks = if left < 2 then 100 + 50 * left else 0 - 5;", 4);
        Checks.due("by ASKS as it is held", held.cheapest(0) * 1000 + held.cheapest(1), 2000);
        CouplesPaving last = paved("square 6 6; asks = 40 - left - 4 * top;", 0);
        Checks.due("the last one", last.cheapest(0) * 100 + last.cheapest(1), 2836);
    }

    private static void cheapestOnes() {
        CouplesPaving x = Checks.of("square 2 2; stone 0 0 0; stone 0 1 0; asks = 7 * turned;");
        Checks.due("0 is the only one, for nothing", x.cheapest(0) * 100 + x.cheapest(1), 0);
        x.turn(0);
        Checks.due("for 14", x.cheapest(0) * 100 + x.cheapest(1), 14);
        Checks.due("nothing was paid for asking", x.count(6), 0);
        CouplesPaving all = paved("square 6 6; asks = 9999;", 0);
        Checks.due("of all alike the first", all.cheapest(0) * 1000 + all.cheapest(1), 198);
    }

    private static void nothingCheapest() {
        String[] texts = {"square 2 2;", "square 2 2; stone 0 0 0;", "square 3 3; stone 0 0 0; stone 1 1 0;", HOLES_ALONE};
        for (String text : texts) {
            CouplesPaving x = Checks.of(text);
            Checks.due(text + " which", x.cheapest(0), -2);
            Checks.due(text + " how much", x.cheapest(1), -2);
        }
        CouplesPaving ring = paved("square 3 3; hole 1 1;", 0);
        Checks.due("a PAVING without one", ring.cheapest(0) * 10 + ring.cheapest(1), -22);
    }

    private static void cheapestOfOthers() {
        CouplesPaving x = paved("square 2 2;", 0);
        CouplesPaving none = Checks.of("square 2 2;");
        for (int what : NEITHER) {
            Checks.due("cheapest(" + what + ")", x.cheapest(what), -1);
            Checks.due("where none can be TURNED: cheapest(" + what + ")", none.cheapest(what), -1);
        }
    }
}
