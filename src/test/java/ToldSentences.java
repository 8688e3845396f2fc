import java.util.ArrayList;
import java.util.List;

/** Sentences on which paving it was: part IV, promises 30 to 33; and on what is told where two answers could be. */
final class ToldSentences {
    private static final String HOLES_ALONE = "square 2 2; hole 0 0; hole 1 0; hole 0 1; hole 1 1;";
    private static final String[] TEXTS = {"square 4 4;", "square 5 4; hole 0 0; hole 1 0;", "square 3 3; hole 1 1;",
        "square 2 6;", "square 4 3; hole 1 1; hole 2 1;"};

    private ToldSentences() {
    }

    static void tell(Sentences s) {
        s.terms(30);
        s.of("TOLD: that on a cell without a HOLE a STONE lay ACROSS, or DOWN, of a PAVING unknown;", ToldSentences::toldOfAnUnknown);
        s.of("20 at most, numbered from 0 on;", ToldSentences::twentyAtMost);
        s.terms(32);
        s.of("KNOWN by k: the first k.", ToldSentences::theFirstK);
        s.of("FIT: PAVINGS (STONES that lie not looked at) of which all that is KNOWN is so: how many; the number of the first,"
            + " of the last.", ToldSentences::allThatIsKnownIsSo);
        s.terms(33);
        s.of("LOOK: the cell without a HOLE of which, once it is told whether a STONE ACROSS lay on it, fewest are left, at worst;"
            + " of alike ones the first.", ToldSentences::fewestAtWorst);
        s.terms(32);
        s.of("Where NONE and -2 could both be told, it is NONE.", ToldSentences::noneAheadOfMinusTwo);
        s.promise(30);
        s.of("It is TOLD: its number;", ToldSentences::itsNumber);
        s.of("NONE, and nothing happens: 20 are there, a HOLE, no such cell.", ToldSentences::canNotBeTold);
        s.promise(31);
        s.of("All that was TOLD is forgotten: how many there were.", ToldSentences::allIsForgotten);
        s.promise(32);
        s.of("FIT, as KNOWN by k: what 0 how many, 1 the first, 2 the last;", ToldSentences::fits);
        s.of("-2: what 1, 2, none is left;", ToldSentences::noneFits);
        s.of("NONE: no such ones.", ToldSentences::noSuchFit);
        s.promise(33);
        s.of("LOOK, as KNOWN by k;", ToldSentences::looks);
        s.of("-2: none is left, all are HOLES;", ToldSentences::nowhereToLook);
        s.of("NONE: no such k.", ToldSentences::noSuchLook);
    }

    // ---- told

    private static void toldOfAnUnknown() {
        CouplesPaving x = Checks.of("square 3 2; stone 0 0 1;");
        int[] before = Checks.state(x);
        Checks.due("against what lies", x.tell(0, true), 0);
        Checks.due("on a cell without a STONE", x.tell(5, false), 1);
        Checks.due("on its other cell, unlike", x.tell(3, false), 2);
        before[10] = 3;
        Checks.sameState("three were TOLD", x, before);
        Checks.due("ACROSS on 0", x.fit(1, 0) * 10 + x.fit(1, 1), 10);
        Checks.due("DOWN on 5", x.fit(2, 0), 1);
        Checks.due("DOWN on 3: none", x.fit(3, 0), 0);
        x.pave(1);
        Checks.due("what lies later changes nothing", x.fit(2, 0) * 10 + x.fit(2, 1), 10);
    }

    private static void twentyAtMost() {
        CouplesPaving x = new CouplesPaving();
        for (int i = 0; i < 20; i++) {
            Checks.due("tell", x.tell(i % 16, i < 8), i);
        }
        Checks.due("a 21st", x.tell(0, true), -1);
        Checks.due("20", x.count(10), 20);
        x.forget();
        Checks.due("from 0 on", x.tell(15, true), 0);
        Checks.due("from 0 on", x.tell(15, true), 1);
    }

    private static void itsNumber() {
        CouplesPaving x = Checks.of("square 2 2; hole 0 0; hole 1 0;");
        Checks.due("the first", x.tell(2, true), 0);
        Checks.due("the last cell", x.tell(3, true), 1);
        Checks.due("the same once more", x.tell(3, true), 2);
        Checks.due("what can not be", x.tell(3, false), 3);
        Checks.due("how many", x.count(10), 4);
        Checks.due("it is no thing done", x.count(9), 0);
        CouplesPaving none = Checks.of("square 3 3;");
        Checks.due("where there is no PAVING", none.tell(4, true), 0);
    }

    private static void canNotBeTold() {
        CouplesPaving x = Checks.of("square 3 3; hole 1 1; hole 0 0;");
        for (int round = 0; round < 2; round++) {
            int many = x.count(10);
            for (int cell : new int[] {4, 0, 9, 10, 36, -1, -2, Integer.MAX_VALUE, Integer.MIN_VALUE}) {
                Checks.due("tell(" + cell + ", true)", x.tell(cell, true), -1);
                Checks.due("tell(" + cell + ", false)", x.tell(cell, false), -1);
            }
            Checks.due("nothing happens", x.count(10), many);
            Checks.due("the last cell", x.tell(8, true), many);
        }
        for (int i = 2; i < 20; i++) {
            x.tell(8, true);
        }
        Checks.due("20 are there", x.tell(8, false), -1);
        Checks.due("20 are there", x.tell(8, true), -1);
        Checks.due("nothing happens", x.count(10), 20);
        CouplesPaving y = new CouplesPaving();
        for (int i = 0; i < 20; i++) {
            y.tell(0, true);
        }
        y.tell(0, false);
        Checks.due("a refused one is not KNOWN", y.fit(20, 0), 18);
    }

    private static void allIsForgotten() {
        CouplesPaving x = new CouplesPaving();
        Checks.due("nothing was TOLD", x.forget(), 0);
        x.tell(0, true);
        x.tell(1, false);
        Checks.due("two", x.forget(), 2);
        Checks.due("none is there", x.count(10), 0);
        Checks.due("none is KNOWN", x.fit(1, 0), -1);
        Checks.due("ALL fit", x.fit(0, 0), 36);
        Checks.due("nothing to forget", x.forget(), 0);
        for (int i = 0; i < 20; i++) {
            x.tell(0, false);
        }
        Checks.due("twenty", x.forget(), 20);
        x.tell(5, true);
        Checks.due("one, and not what was before", x.fit(1, 0), x.across(5));
    }

    // ---- what fits

    private static boolean fitsKnown(int[] mates, int[] cells, boolean[] across, int k) {
        for (int i = 0; i < k; i++) {
            if (PavingSentences.isAcross(mates, cells[i]) != across[i]) {
                return false;
            }
        }
        return true;
    }

    private interface Known {
        void see(String name, CouplesPaving x, int k, List<Integer> left, List<int[]> all);
    }

    /** Tells of some pavings how six of their cells lay, and with the last one lies; sees what is left by each k. */
    private static void allKnown(Known seen) {
        for (String text : TEXTS) {
            List<int[]> all = PavingSentences.allPavings(text);
            for (int i = 0; i < all.size(); i += 1 + all.size() / 5) {
                CouplesPaving x = Checks.of(text);
                int[] cells = new int[6];
                boolean[] across = new boolean[6];
                int told = 0;
                for (int n = 0; n < 200 && told < 6; n++) {
                    int c = (i % 3 + 5 * n + n / 12) % all.get(i).length;
                    if (all.get(i)[c] >= 0) {
                        cells[told] = c;
                        across[told] = PavingSentences.isAcross(all.get(i), c) ^ (told == 5 && i % 2 == 1);
                        Checks.due("tell", x.tell(c, across[told]), told);
                        told++;
                    }
                }
                for (int k = 6; k >= 0; k--) {
                    List<Integer> left = new ArrayList<>();
                    for (int j = 0; j < all.size(); j++) {
                        if (fitsKnown(all.get(j), cells, across, k)) {
                            left.add(j);
                        }
                    }
                    seen.see(text + " of " + i + " KNOWN by " + k, x, k, left, all);
                }
            }
        }
    }

    private static void allThatIsKnownIsSo() {
        allKnown((name, x, k, left, all) -> {
            boolean none = left.isEmpty();
            Checks.due(name + ": how many", x.fit(k, 0), left.size());
            Checks.due(name + ": the first", x.fit(k, 1), none ? -2 : left.get(0));
            Checks.due(name + ": the last", x.fit(k, 2), none ? -2 : left.get(left.size() - 1));
            x.pave(k);
            x.lift(all.get(0).length - 1);
        });
    }

    private static void theFirstK() {
        CouplesPaving x = Checks.of("square 4 2;");
        x.tell(0, false);
        x.tell(3, false);
        x.tell(1, true);
        x.tell(0, true);
        int[] due = {5, 3, 2, 1, 0};
        for (int round = 0; round < 2; round++) {
            for (int k = 0; k <= 4; k++) {
                Checks.due("KNOWN by " + k, x.fit(k, 0), due[k]);
            }
        }
        Checks.due("and of those look", x.look(0) * 10 + x.look(1), 1);
    }

    private static void fits() {
        CouplesPaving x = Checks.of("square 4 2; stone 1 0 0;");
        Checks.due("ALL", x.fit(0, 0) * 100 + x.fit(0, 1) * 10 + x.fit(0, 2), 504);
        x.tell(0, false);
        Checks.due("DOWN on 0", x.fit(1, 0) * 100 + x.fit(1, 1) * 10 + x.fit(1, 2), 324);
        x.tell(7, true);
        Checks.due("ACROSS on 7", x.fit(2, 0) * 100 + x.fit(2, 1) * 10 + x.fit(2, 2), 133);
        CouplesPaving large = Checks.of("square 6 6;");
        Checks.due("the last of 6 by 6", large.fit(0, 2), 6727);
        large.tell(35, true);
        Checks.due("half of them", large.fit(1, 0), 3364);
        Checks.due("the first", large.fit(1, 1), 0);
        CouplesPaving holes = Checks.of(HOLES_ALONE);
        Checks.due("HOLES alone", holes.fit(0, 0) * 100 + holes.fit(0, 1) * 10 + holes.fit(0, 2), 100);
    }

    private static void noneFits() {
        CouplesPaving x = Checks.of("square 2 2;");
        x.tell(0, true);
        x.tell(3, false);
        Checks.due("one is left", x.fit(1, 1) * 10 + x.fit(1, 2), 0);
        Checks.due("none is left: what 1", x.fit(2, 1), -2);
        Checks.due("none is left: what 2", x.fit(2, 2), -2);
        Checks.due("none is left: how many", x.fit(2, 0), 0);
        CouplesPaving none = Checks.of("square 3 3;");
        Checks.due("no PAVING at all: what 1", none.fit(0, 1), -2);
        Checks.due("no PAVING at all: what 2", none.fit(0, 2), -2);
        Checks.due("no PAVING at all: how many", none.fit(0, 0), 0);
        CouplesPaving both = Checks.of("square 2 2;");
        both.tell(1, true);
        both.tell(1, false);
        Checks.due("ACROSS and DOWN", both.fit(2, 0) * 10 + both.fit(2, 1), -2);
    }

    private static void noSuchFit() {
        CouplesPaving x = Checks.of("square 2 2;");
        for (int told = 0; told < 2; told++) {
            for (int what = -1; what <= 3; what++) {
                Checks.due("k below 0: fit(-1, " + what + ")", x.fit(-1, what), -1);
                Checks.due("k of one more: fit(" + (told + 1) + ", " + what + ")", x.fit(told + 1, what), -1);
            }
            for (int far : new int[] {-1, 3, 4, Integer.MAX_VALUE, Integer.MIN_VALUE}) {
                Checks.due("fit(0, " + far + ")", x.fit(0, far), -1);
                Checks.due("fit(" + far + ", 0)", x.fit(far, 0), -1);
            }
            Checks.due("the last k", x.fit(told, 0), 2 - told);
            x.tell(0, true);
        }
        for (int i = 2; i < 25; i++) {
            x.tell(0, true);
        }
        Checks.due("KNOWN by 20", x.fit(20, 0), 1);
        Checks.due("KNOWN by 21", x.fit(21, 0), -1);
    }

    // ---- where to look

    private static void fewestAtWorst() {
        allKnown((name, x, k, left, all) -> {
            int due = -2;
            int least = Integer.MAX_VALUE;
            for (int c = 0; c < all.get(0).length && !left.isEmpty(); c++) {
                int across = 0;
                for (int i : left) {
                    across += PavingSentences.isAcross(all.get(i), c) ? 1 : 0;
                }
                int worst = Math.max(across, left.size() - across);
                if (all.get(0)[c] >= 0 && worst < least) {
                    least = worst;
                    due = c;
                }
            }
            Checks.due(name + ": look(" + k + ")", x.look(k), due);
            x.pave(k);
        });
    }

    private static void looks() {
        CouplesPaving x = Checks.of("square 4 2; stone 0 0 0;");
        // ACROSS lay of five PAVINGS on 0 two, on 1 three: three are left at worst by either.
        Checks.due("of alike ones the first", x.look(0), 0);
        x.tell(0, false);
        Checks.due("not where it is KNOWN", x.look(1), 1);
        x.tell(1, true);
        Checks.due("one is left: the first cell", x.look(2), 0);
        Checks.due("as KNOWN by fewer", x.look(0) * 10 + x.look(1), 1);
        Checks.due("nothing happens", x.count(10) * 10 + x.count(3), 21);
        CouplesPaving hole = Checks.of("square 2 2; hole 0 0; hole 1 0;");
        Checks.due("the first without a HOLE", hole.look(0), 2);
        // Told the truth where it says, at most twenty looks end with the PAVING itself.
        for (int i = 0; i < 6728; i += 331) {
            CouplesPaving large = Checks.of("square 6 6;");
            large.pave(i);
            int k = 0;
            while (k < 20 && large.fit(k, 0) > 1) {
                int c = large.look(k);
                large.tell(c, Math.abs(large.cell(c, 1) - c) == 1);
                k++;
            }
            Checks.due("it is found", large.fit(k, 1), i);
        }
    }

    private static void nowhereToLook() {
        CouplesPaving x = Checks.of("square 2 2;");
        x.tell(0, true);
        x.tell(0, false);
        Checks.due("one is left", x.look(1), 0);
        Checks.due("none is left", x.look(2), -2);
        Checks.due("no PAVING at all", Checks.of("square 3 3;").look(0), -2);
        Checks.due("all are HOLES", Checks.of(HOLES_ALONE).look(0), -2);
        Checks.due("all of 2 by 6 are HOLES", Checks.of("square 2 6; hole 0 0; hole 0 1; hole 0 2; hole 0 3; hole 0 4; hole 0 5;"
            + " hole 1 0; hole 1 1; hole 1 2; hole 1 3; hole 1 4; hole 1 5;").look(0), -2);
    }

    private static void noSuchLook() {
        CouplesPaving x = Checks.of("square 2 2;");
        for (int told = 0; told <= 20; told++) {
            Checks.due("one more than TOLD", x.look(told + 1), -1);
            Checks.due("as many as TOLD", x.look(told), 0);
            x.tell(0, true);
        }
        for (int k : new int[] {-1, -2, 21, 100, Integer.MAX_VALUE, Integer.MIN_VALUE}) {
            Checks.due("look(" + k + ")", x.look(k), -1);
        }
        Checks.due("no such k where all are HOLES", Checks.of(HOLES_ALONE).look(1), -1);
        Checks.due("no such k where none is left", Checks.of("square 3 3;").look(1), -1);
    }

    private static void noneAheadOfMinusTwo() {
        CouplesPaving x = Checks.of("square 3 3; hole 1 1; stone 0 0 0;");
        Checks.due("cell: no such what, no STONE", x.cell(2, 4), -1);
        Checks.due("cell: no such what, a HOLE", x.cell(4, -1), -1);
        Checks.due("stone: no such what, no STONE", x.stone(1, 6), -1);
        Checks.due("stone: no such COUPLE", x.stone(18, 0), -1);
        Checks.due("frozen: no such cell", x.frozen(9), -1);
        Checks.due("way: no such PAVING, HOLES", x.way(2), -1);
        Checks.due("way: HOLES", x.way(1), -2);
        Checks.due("farthest: others, HOLES", x.farthest(2), -1);
        Checks.due("cheapest: others, none can be TURNED", x.cheapest(2), -1);
        CouplesPaving none = Checks.of("square 3 3;");
        Checks.due("way: no such PAVING, none lies", none.way(0), -1);
        Checks.due("farthest: others, none lies", none.farthest(-1), -1);
        Checks.due("fit: no such what, none is left", none.fit(0, 3), -1);
        Checks.due("fit: no such k, none is left", none.fit(1, 1), -1);
        Checks.due("look: no such k, none is left", none.look(1), -1);
        Checks.due("look: none is left", none.look(0), -2);
    }
}
