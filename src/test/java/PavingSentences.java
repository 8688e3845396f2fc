import java.util.ArrayList;
import java.util.Arrays;
import java.util.List;

/** Sentences on how many pavings there are, and on what they have in common: part III, promises 14 to 20 and 27. */
final class PavingSentences {
    // How many ways there are to pave a square of 2 .. 6 by 2 .. 6, as the books have it.
    static final int[][] KNOWN = {
        {2, 3, 5, 8, 13},
        {3, 0, 11, 0, 41},
        {5, 11, 36, 95, 281},
        {8, 0, 95, 0, 1183},
        {13, 41, 281, 1183, 6728}};
    private static final int[] NO_CELL = {-2, -3, 1000, Integer.MAX_VALUE, Integer.MIN_VALUE};
    private static final String HOLES_ALONE = "square 2 2; hole 0 0; hole 1 0; hole 0 1; hole 1 1;";

    private PavingSentences() {
    }

    static void tell(Sentences s) {
        s.terms(14);
        s.of("What would be (nothing happens; loosening in IN n SEASONS and YEAR alone).", PavingSentences::nothingHappens);
        s.of("A PAVING: STONES on all cells without HOLES.", PavingSentences::whatAPavingIs);
        s.terms(20);
        s.of("PAVINGS are numbered from 0 on by the first cell, in order of numbers, on which two lie unlike: of these the one"
            + " with it ACROSS (it is the FIRST cell there) is ahead.", PavingSentences::numbersOfPavings);
        s.terms(14);
        s.of("ALL: how many PAVINGS there are (STONES that lie not looked at);", PavingSentences::stonesNotLookedAt);
        s.terms(15);
        s.of("REST: how many with all STONES as they lie.", PavingSentences::withStonesAsTheyLie);
        s.terms(16);
        s.of("ACROSS of a cell: in how many of REST a STONE ACROSS is on it.", PavingSentences::acrossOfRest);
        s.terms(17);
        s.of("FROZEN: cells without HOLES, STONES, on which STONES lie alike, on the same two cells, in all of REST"
            + " (0 of REST: none).", PavingSentences::alikeInAllOfRest);
        s.terms(18);
        s.of("MORE: BLACK cells without HOLES, STONES, less WHITE ones.", PavingSentences::blackLessWhite);
        s.terms(19);
        s.of("SHORT: how few of the cells without HOLES, STONES must be closed so that the others can be filled by STONES.",
            PavingSentences::fewestToClose);
        s.terms(20);
        s.of("RANK: the number of the PAVING that lies.", PavingSentences::numberOfWhatLies);
        s.terms(27);
        s.of("WIDOWS: in how many ways all cells without HOLES but two told ones can be filled (STONES that lie not looked at).",
            PavingSentences::allButTwo);
        tellPromises(s);
    }

    private static void tellPromises(Sentences s) {
        s.promise(14);
        s.of("ALL.", PavingSentences::allOfThem);
        s.promise(15);
        s.of("REST.", PavingSentences::restOfThem);
        s.promise(16);
        s.of("ACROSS;", PavingSentences::acrossSomewhere);
        s.of("NONE: a HOLE, no such cell.", PavingSentences::acrossNowhere);
        s.promise(17);
        s.of("FROZEN: how many cells (cell NONE), else the other cell with which a STONE lies on it in all (-2: it is not FROZEN);",
            PavingSentences::frozenCells);
        s.of("NONE: no such cell.", PavingSentences::noCellToBeFrozen);
        s.promise(18);
        s.of("MORE (may be below 0).", PavingSentences::moreOfOneColour);
        s.promise(19);
        s.of("SHORT.", PavingSentences::shortOfPavings);
        s.promise(20);
        s.of("RANK;", PavingSentences::ranks);
        s.of("-2: no PAVING lies.", PavingSentences::noRank);
        s.promise(27);
        s.of("WIDOWS;", PavingSentences::widowsApart);
        s.of("NONE: a HOLE, no such cells, one and the same.", PavingSentences::noWidows);
    }

    /** All pavings by number, told by the other cell of each cell's stone. */
    static List<int[]> allPavings(String text) {
        List<int[]> all = new ArrayList<>();
        int many = Checks.of(text).all();
        CouplesPaving x = null;
        for (int i = 0; i < many; i++) {
            if (i % 12 == 0) {
                x = Checks.of(text);
            }
            Checks.due("pave(" + i + ")", x.pave(i), true);
            all.add(Checks.mates(x));
        }
        return all;
    }

    static boolean isAcross(int[] mates, int cell) {
        return Math.abs(mates[cell] - cell) == 1 && mates[cell] >= 0;
    }

    // ---- what pavings are

    private static void askAll(CouplesPaving x) {
        x.all();
        x.rest();
        x.more();
        x.shortBy();
        x.rank();
        for (int i = -1; i < 8; i++) {
            x.across(i);
            x.frozen(i);
            x.hill(i, i / 2);
            x.way(i);
            x.farthest(i);
            x.lowest(i);
            x.turns(i);
            x.cheapest(i);
            x.widows(i, 3);
            x.then(i, 9 * i);
            x.year(7 * i, 3 * i);
            x.fit(1, i);
            x.look(i);
        }
    }

    private static int answer(CouplesPaving x, int question) {
        switch (question) {
            case 0: return x.all();
            case 1: return x.rest();
            case 2: return x.across(1);
            case 3: return x.frozen(-1);
            case 4: return x.more();
            case 5: return x.shortBy();
            case 6: return x.rank();
            case 7: return x.hill(1, 1);
            case 8: return x.way(1);
            case 9: return x.farthest(0);
            case 10: return x.lowest(0);
            case 11: return x.turns(-1);
            case 12: return x.cheapest(1);
            case 13: return x.widows(0, 1);
            case 14: return x.then(-1, 3);
            case 15: return x.year(2, 20);
            case 16: return x.fit(2, 2);
            case 17: return x.look(2);
            case 18: return x.farthest(1);
            default: return x.lowest(1);
        }
    }

    private static CouplesPaving asked(String text) {
        CouplesPaving x = Checks.of(text);
        x.tell(0, true);
        x.tell(2, false);
        return x;
    }

    // What was asked ahead changes no answer.
    private static void nothingHappensByAsking() {
        for (String text : new String[] {"square 4 4; loosens = 9 * left;", "square 4 2; stone 0 0 0; stone 0 1 0; stone 2 0 1; stone 3 0 1;",
            "square 3 3; stone 0 0 0; hole 1 1; loosens = 20; seed 2;", "square 5 3; stone 1 0 1;"}) {
            int[] fresh = new int[20];
            for (int i = 0; i < 20; i++) {
                fresh[i] = answer(asked(text), i);
            }
            for (int i = 0; i < 20; i++) {
                CouplesPaving x = asked(text);
                answer(x, i);
                for (int j = 0; j < 20; j++) {
                    Checks.due(text + " question " + j + " behind " + i, answer(x, (i + 7 * j) % 20), fresh[(i + 7 * j) % 20]);
                    answer(x, i);
                }
            }
        }
    }

    private static void nothingHappens() {
        nothingHappensByAsking();
        String text = "square 4 2; stone 1 0 0; stone 1 1 0; asks = 3 + turned; loosens = 100; lays = 5;";
        CouplesPaving x = Checks.of(text);
        x.tell(0, true);
        x.turn(1);
        x.feed(1, 2, 3, 4, 5);
        x.hold(2);
        int[] before = Checks.state(x);
        askAll(x);
        Checks.sameState("all questions", x, before);
        Checks.due("the tape, TOLD, SLOTS", x.count(8) * 100 + x.count(10) * 10 + x.count(11), 2011);
        CouplesPaving full = Checks.of(text);
        full.pave(1);
        before = Checks.state(full);
        askAll(full);
        Checks.sameState("all questions", full, before);
        Checks.due("no loosening: REST", x.rest() * 10 + full.rest(), 11);
        Checks.due("loosening IN a SEASON and in a YEAR", x.then(-1, 1) * 10 + x.year(1, 1), 0);
    }

    private static void whatAPavingIs() {
        CouplesPaving x = Checks.of("square 3 2; hole 0 0; hole 2 1;");
        Checks.due("nothing lies", x.count(7), 0);
        x.lay(1, 0);
        Checks.due("not all cells", x.count(7), 0);
        x.lay(3, 0);
        Checks.due("all cells without HOLES", x.count(7), 1);
        Checks.due("it is one of ALL", x.all() * 10 + x.rank(), 10);
        x.lift(4);
        Checks.due("no more", x.count(7), 0);
        CouplesPaving holes = Checks.of(HOLES_ALONE);
        Checks.due("without such cells nothing is left to lie", holes.count(7) * 10 + holes.all(), 11);
        for (int[] mates : allPavings("square 5 4; hole 0 0; hole 3 0;")) {
            for (int c = 1; c < 20; c++) {
                Checks.due("a STONE on " + c, c == 3 ? mates[c] == -2 : mates[mates[c]] == c, true);
            }
        }
    }

    private static void numbersOfPavings() {
        for (String text : new String[] {"square 2 2;", "square 3 2;", "square 2 5;", "square 6 2;", "", "square 5 5; hole 2 2;",
            "square 6 3; hole 0 0; hole 5 0;", "square 4 5; hole 1 1; hole 2 1;", "square 3 3; hole 1 1;"}) {
            int[] ahead = null;
            for (int[] mates : allPavings(text)) {
                if (ahead != null) {
                    int c = 0;
                    while (c < mates.length - 1 && mates[c] == ahead[c]) {
                        c++;
                    }
                    Checks.due(text + " the one ahead lies ACROSS on the first unlike cell", ahead[c], c + 1);
                    Checks.due(text + " the other DOWN", mates[c] > c + 1, true);
                }
                ahead = mates;
            }
        }
        CouplesPaving x = Checks.of("square 6 6;");
        x.pave(0);
        Checks.due("the first: all ACROSS", x.count(4), 18);
        x.pave(6727);
        Checks.due("the last: all DOWN", x.count(4), 0);
    }

    // ---- how many

    private static void allOfThem() {
        for (int wide = 2; wide <= 6; wide++) {
            for (int high = 2; high <= 6; high++) {
                CouplesPaving x = Checks.of("square " + wide + " " + high + ";");
                Checks.due("ALL of " + wide + " by " + high, x.all(), KNOWN[wide - 2][high - 2]);
            }
        }
        Checks.due("of a new object", new CouplesPaving().all(), 36);
        String[] texts = {"square 5 5; hole 4 4;", "square 6 6; hole 0 0; hole 5 5;", "square 3 3; hole 1 1;", "square 2 2; hole 0 0;",
            "square 2 2; hole 0 0; hole 1 0;", "square 2 2; hole 0 0; hole 1 1;", HOLES_ALONE,
            "square 6 6; hole 0 0; hole 1 0; hole 4 0; hole 5 0; hole 0 1; hole 5 1; hole 0 4; hole 5 4; hole 0 5; hole 1 5;"
                + " hole 4 5; hole 5 5;"};
        int[] due = {192, 0, 2, 0, 1, 0, 1, 64};
        for (int i = 0; i < texts.length; i++) {
            Checks.due("ALL of " + texts[i], Checks.of(texts[i]).all(), due[i]);
        }
    }

    private static void stonesNotLookedAt() {
        CouplesPaving x = Checks.of("stone 1 0 0; stone 0 1 0;");
        Checks.due("with STONES in the way", x.all(), 36);
        Checks.due("REST of it", x.rest(), 0);
        x.pave(3);
        Checks.due("with a PAVING", x.all(), 36);
        x.lift(0);
        x.seasons(5);
        Checks.due("less one", x.all(), 36);
    }

    private static void restOfThem() {
        Checks.due("no STONE: REST is ALL", Checks.of("square 6 6;").rest(), 6728);
        Checks.due("of a new object", new CouplesPaving().rest(), 36);
        Checks.due("HOLES alone", Checks.of(HOLES_ALONE).rest(), 1);
        Checks.due("an odd SQUARE", Checks.of("square 3 3;").rest(), 0);
        CouplesPaving x = Checks.of("stone 1 1 0;");
        Checks.due("a STONE in the middle", x.rest(), 6);
        x.lift(5);
        Checks.due("lifted", x.rest(), 36);
        x.pave(20);
        Checks.due("with a PAVING only that", x.rest(), 1);
        x.lift(0);
        Checks.due("with one STONE less only that", x.rest(), 1);
        Checks.due("a cell cut off", Checks.of("square 4 2; stone 1 0 0; stone 0 1 0;").rest(), 0);
    }

    private static void withStonesAsTheyLie() {
        for (String text : new String[] {"", "square 5 3; hole 4 0;", "square 3 4;", "square 4 3; hole 1 1; hole 2 1;"}) {
            List<int[]> all = allPavings(text);
            int[] lies = all.get(all.size() / 3);
            CouplesPaving x = Checks.of(text);
            boolean[] laid = new boolean[lies.length];
            for (int c = lies.length - 1; c >= 0; c--) {
                if (lies[c] > c) {
                    x.lay(c, lies[c] == c + 1 ? 0 : 1);
                    laid[c] = true;
                    int due = 0;
                    for (int[] mates : all) {
                        boolean same = true;
                        for (int d = 0; d < lies.length; d++) {
                            same &= !laid[d] || mates[d] == lies[d];
                        }
                        due += same ? 1 : 0;
                    }
                    Checks.due(text + " REST with STONES from " + c + " on", x.rest(), due);
                }
            }
        }
    }

    private static int acrossDue(List<int[]> rest, int cell) {
        int due = 0;
        for (int[] mates : rest) {
            due += isAcross(mates, cell) ? 1 : 0;
        }
        return due;
    }

    private static void acrossOfRest() {
        for (String text : new String[] {"square 4 4;", "square 5 4;", "square 3 3; hole 1 1;", "square 4 3; hole 1 1; hole 2 1;",
            "square 2 6;", "square 6 2; hole 0 0; hole 1 0;"}) {
            List<int[]> all = allPavings(text);
            CouplesPaving x = Checks.of(text);
            int cells = x.count(0) * x.count(1);
            for (int c = 0; c < cells; c++) {
                if (x.cell(c, 0) == 0) {
                    Checks.due(text + " across(" + c + ")", x.across(c), acrossDue(all, c));
                }
            }
            int[] lies = all.get(all.size() - 1);
            int couples = x.lay(0, lies[0] == 1 ? 0 : 1);
            List<int[]> rest = new ArrayList<>();
            for (int[] mates : all) {
                if (mates[0] == lies[0]) {
                    rest.add(mates);
                }
            }
            for (int c = 0; c < cells && couples == 0; c++) {
                if (x.cell(c, 0) != 2) {
                    Checks.due(text + " with a STONE on 0: across(" + c + ")", x.across(c), acrossDue(rest, c));
                }
            }
        }
    }

    private static void acrossSomewhere() {
        CouplesPaving x = new CouplesPaving();
        Checks.due("a corner of a new object", x.across(0) * 100 + x.across(15), 1818);
        x.lay(5, 0);
        Checks.due("on its own cells", x.across(5) * 100 + x.across(6), 606);
        Checks.due("beside it", x.across(4), 0);
        x.lift(5);
        x.lay(5, 1);
        Checks.due("on the cells of a STONE DOWN", x.across(5) * 100 + x.across(9), 0);
        Checks.due("of none left", Checks.of("stone 1 0 0; stone 0 1 0;").across(1), 0);
        Checks.due("of none at all", Checks.of("square 3 3;").across(4), 0);
        Checks.due("of the last of 6 by 6", Checks.of("square 6 6;").across(35), 3364);
    }

    private static void acrossNowhere() {
        CouplesPaving x = Checks.of("square 3 3; hole 1 1; stone 0 0 0;");
        Checks.due("a HOLE", x.across(4), -1);
        Checks.due("one behind the last", x.across(9), -1);
        Checks.due("one ahead of the first", x.across(-1), -1);
        for (int c : NO_CELL) {
            Checks.due("across(" + c + ")", x.across(c), -1);
        }
        Checks.due("the last", x.across(8), 1);
        Checks.due("a HOLE where nothing can be paved", Checks.of("square 2 2; hole 1 1;").across(3), -1);
        Checks.due("no such cell of 2 by 2", Checks.of("square 2 2;").across(4), -1);
    }

    private static void alikeInAllOfRest() {
        String[] texts = {"", "square 4 2; stone 1 0 0;", "square 5 3; hole 4 0; stone 2 0 1;", "square 3 3; hole 1 1; stone 0 0 0;",
            "square 6 3; hole 0 0; hole 5 0; stone 2 0 0;", "square 4 3; hole 1 1; hole 2 1;", "square 4 2; stone 1 0 0; stone 0 1 0;",
            "square 5 2; stone 0 0 1; hole 2 0; hole 2 1;", "square 2 6; stone 0 1 0; stone 0 3 1;"};
        for (String text : texts) {
            CouplesPaving x = Checks.of(text);
            int[] lies = Checks.mates(x);
            List<int[]> rest = new ArrayList<>();
            for (int[] mates : allPavings(text)) {
                boolean same = true;
                for (int c = 0; c < lies.length; c++) {
                    same &= lies[c] < 0 || lies[c] == mates[c];
                }
                if (same) {
                    rest.add(mates);
                }
            }
            int many = 0;
            for (int c = 0; c < lies.length; c++) {
                int cell = c;
                boolean alike = x.cell(c, 0) == 0 && !rest.isEmpty()
                    && rest.stream().allMatch(mates -> mates[cell] == rest.get(0)[cell]);
                many += alike ? 1 : 0;
                Checks.due(text + " frozen(" + c + ")", x.frozen(c), alike ? rest.get(0)[c] : -2);
            }
            Checks.due(text + " frozen(NONE)", x.frozen(-1), many);
        }
    }

    private static void frozenCells() {
        CouplesPaving x = Checks.of("square 4 2; stone 1 0 0;");
        int[] due = {4, -2, -2, 7, 0, 6, 5, 3};
        for (int c = 0; c < 8; c++) {
            Checks.due("frozen(" + c + ")", x.frozen(c), due[c]);
        }
        Checks.due("how many", x.frozen(-1), 6);
        x.lay(5, 0);
        Checks.due("of which a STONE lies on two now", x.frozen(-1) * 10 + x.frozen(5), 38);
        CouplesPaving holes = Checks.of("square 3 3; hole 1 1; stone 0 0 0;");
        Checks.due("a HOLE is not", holes.frozen(4), -2);
        Checks.due("around it", holes.frozen(-1), 6);
        CouplesPaving none = Checks.of("square 3 3;");
        Checks.due("0 of REST", none.frozen(-1) * 10 + none.frozen(0), -2);
        CouplesPaving full = Checks.of("square 2 2; stone 0 0 0; stone 0 1 0;");
        Checks.due("full: none without STONES", full.frozen(-1) * 10 + full.frozen(3), -2);
        CouplesPaving only = Checks.of("square 2 2; hole 0 0; hole 0 1;");
        Checks.due("of one PAVING all are", only.frozen(-1) * 100 + only.frozen(1) * 10 + only.frozen(3), 231);
        CouplesPaving alone = Checks.of(HOLES_ALONE);
        Checks.due("HOLES alone", alone.frozen(-1), 0);
        CouplesPaving corridor = Checks.of("square 6 6; hole 1 1; hole 2 1; hole 3 1; hole 4 1; hole 1 4; hole 2 4; hole 3 4;"
            + " hole 4 4; hole 0 1; hole 5 1; hole 0 4; hole 5 4;");
        Checks.due("a corridor above, one below, a place between", corridor.frozen(-1), 12);
        Checks.due("ACROSS in all", corridor.frozen(0) * 100 + corridor.frozen(35), 134);
    }

    private static void noCellToBeFrozen() {
        CouplesPaving x = Checks.of("square 3 2; stone 0 0 1;");
        Checks.due("one behind the last", x.frozen(6), -1);
        for (int c : NO_CELL) {
            Checks.due("frozen(" + c + ")", x.frozen(c), -1);
        }
        Checks.due("the last", x.frozen(5), -2);
        Checks.due("no such cell of 0 of REST", Checks.of("square 3 3;").frozen(9), -1);
    }

    // ---- colours, cells to close, numbers

    private static void blackLessWhite() {
        for (int wide = 2; wide <= 6; wide++) {
            for (int high = 2; high <= 6; high++) {
                Checks.due("MORE of " + wide + " by " + high, Checks.of("square " + wide + " " + high + ";").more(), wide * high % 2);
            }
        }
        CouplesPaving x = Checks.of("square 3 3; hole 1 0;");
        Checks.due("a WHITE HOLE", x.more(), 2);
        x.lay(3, 0);
        Checks.due("a STONE takes one of each", x.more(), 2);
        x.lay(2, 1);
        Checks.due("or two of them", x.more(), 2);
        x.lift(2);
        x.lift(4);
        Checks.due("lifted", x.more(), 2);
        Checks.due("a BLACK HOLE", Checks.of("square 3 3; hole 2 2;").more(), 0);
    }

    /** Twelve holes, all on cells of one colour of 6 by 4 (or of 4 by 6). */
    private static String oneColour(int wide, int high, int parity) {
        StringBuilder text = new StringBuilder("square " + wide + " " + high + ";");
        for (int i = 0; i < wide * high; i++) {
            if ((i % wide + i / wide) % 2 == parity) {
                text.append("hole ").append(i % wide).append(' ').append(i / wide).append(';');
            }
        }
        return text.toString();
    }

    private static void moreOfOneColour() {
        Checks.due("all WHITE closed", Checks.of(oneColour(6, 4, 1)).more(), 12);
        Checks.due("all BLACK closed", Checks.of(oneColour(6, 4, 0)).more(), -12);
        Checks.due("below 0 by one", Checks.of("square 2 2; hole 0 0;").more(), -1);
        Checks.due("above 0 by one", Checks.of("square 2 2; hole 0 1;").more(), 1);
        Checks.due("as many", new CouplesPaving().more(), 0);
        Checks.due("no cell", Checks.of(HOLES_ALONE).more(), 0);
        CouplesPaving full = Checks.of("square 5 5; hole 0 0;");
        full.pave(191);
        Checks.due("a PAVING", full.more(), 0);
    }

    private static void fewestToClose() {
        String[] texts = {"", "square 3 3;", "square 6 6; hole 0 0; hole 5 5;", "square 6 6; hole 0 0; hole 5 5; hole 0 2;",
            "square 4 2; stone 1 0 0; stone 0 1 0;", "square 2 2; stone 0 0 0; stone 0 1 0;", "square 2 2; hole 0 0; hole 1 1;",
            "square 5 5; hole 2 2; hole 1 2; hole 3 2;", "square 3 3; stone 0 1 0; stone 1 2 0;",
            "square 4 4; stone 1 0 0; stone 0 1 1; stone 3 1 1; stone 1 3 0;"};
        int[] due = {0, 1, 2, 3, 2, 0, 2, 2, 1, 4};
        for (int i = 0; i < texts.length; i++) {
            Checks.due("SHORT of " + texts[i], Checks.of(texts[i]).shortBy(), due[i]);
        }
        // As many of both colours, and still some must be closed: two chambers with a BLACK, a WHITE one too many.
        String wall = "square 5 3; hole 2 0; hole 2 1; hole 2 2; hole 0 0;";
        CouplesPaving x = Checks.of(wall + "hole 4 1;");
        Checks.due("MORE of two chambers", x.more(), 0);
        Checks.due("SHORT of two chambers", x.shortBy(), 2);
        Checks.due("one that can be filled", Checks.of(wall).shortBy(), 1);
    }

    private static void shortOfPavings() {
        Checks.due("12 cells, each alone", Checks.of(oneColour(6, 4, 0)).shortBy(), 12);
        Checks.due("12 cells, each alone", Checks.of(oneColour(4, 6, 1)).shortBy(), 12);
        Checks.due("no cell", Checks.of(HOLES_ALONE).shortBy(), 0);
        Checks.due("one cell", Checks.of("square 2 2; hole 0 0; hole 1 0; hole 1 1;").shortBy(), 1);
        Checks.due("an empty SQUARE", Checks.of("square 6 6;").shortBy(), 0);
        Checks.due("an odd one", Checks.of("square 5 5;").shortBy(), 1);
        CouplesPaving x = Checks.of("square 5 5; hole 2 2; loosens = 50;");
        Checks.due("before", x.shortBy(), 0);
        x.lay(1, 0);
        Checks.due("0 is cut off from 1", x.shortBy(), 0);
        x.lay(5, 0);
        Checks.due("0 is alone", x.shortBy(), 2);
        x.lift(6);
        x.pave(0);
        Checks.due("a PAVING", x.shortBy(), 0);
        x.lift(0);
        Checks.due("one lifted", x.shortBy(), 0);
    }

    private static void numberOfWhatLies() {
        for (String text : new String[] {"", "square 5 2; hole 0 0; hole 1 0;", "square 3 4;"}) {
            List<int[]> all = allPavings(text);
            for (int i = 0; i < all.size(); i++) {
                CouplesPaving x = Checks.of(text);
                int[] mates = all.get(i);
                for (int c = mates.length - 1; c >= 0; c--) {
                    if (mates[c] > c) {
                        x.lay(c, mates[c] == c + 1 ? 0 : 1);
                    }
                }
                Checks.due(text + " RANK of " + Arrays.toString(mates), x.rank(), i);
            }
        }
    }

    private static void ranks() {
        for (int i = 0; i < 6728; i += i < 6600 ? 113 : 1) {
            CouplesPaving x = Checks.of("square 6 6;");
            x.pave(i);
            Checks.due("RANK", x.rank(), i);
        }
        CouplesPaving x = Checks.of("square 2 2; stone 0 0 0; stone 0 1 0;");
        Checks.due("told ones", x.rank(), 0);
        x.turn(0);
        Checks.due("turned", x.rank(), 1);
        CouplesPaving holes = Checks.of(HOLES_ALONE);
        Checks.due("of HOLES alone", holes.rank(), 0);
        CouplesPaving around = Checks.of("square 3 3; hole 1 1;");
        around.pave(1);
        Checks.due("around a HOLE", around.rank(), 1);
    }

    private static void noRank() {
        CouplesPaving x = Checks.of("square 2 2;");
        Checks.due("nothing lies", x.rank(), -2);
        x.lay(0, 1);
        Checks.due("not all lie", x.rank(), -2);
        x.lay(1, 1);
        Checks.due("all lie", x.rank(), 1);
        x.lift(3);
        Checks.due("one is lifted", x.rank(), -2);
        Checks.due("one cell that can not be paved", Checks.of("square 2 2; hole 0 0; stone 0 1 0;").rank(), -2);
        CouplesPaving loose = Checks.of("square 2 2; stone 0 0 0; stone 0 1 0; loosens = 100 * which;");
        loose.seasons(1);
        Checks.due("one is loosened", loose.rank(), -2);
    }

    // ---- widows

    private static int widowsDue(String text, int cell, int other, int wide) {
        return Checks.of(text + "hole " + cell % wide + " " + cell / wide + "; hole " + other % wide + " " + other / wide + ";").all();
    }

    private static void allButTwo() {
        String[] texts = {"square 4 3;", "square 3 3; hole 1 1;", "square 2 3;", "square 5 3; hole 0 0;"};
        int[] wide = {4, 3, 2, 5};
        for (int t = 0; t < texts.length; t++) {
            CouplesPaving x = Checks.of(texts[t]);
            int cells = x.count(0) * x.count(1);
            x.lay(1, 1);
            for (int i = 0; i < cells * cells && i < 400; i++) {
                int a = i / cells;
                int b = i % cells;
                if (a < b && x.cell(a, 0) != 2 && x.cell(b, 0) != 2) {
                    int due = widowsDue(texts[t], a, b, wide[t]);
                    Checks.due(texts[t] + " widows(" + a + ", " + b + ")", x.widows(a, b), due);
                    Checks.due(texts[t] + " widows(" + b + ", " + a + ")", x.widows(b, a), due);
                }
                if (i % cells == cells - 1 && i / cells % 3 == 2) {
                    x = Checks.of(texts[t]);
                    x.pave(0);
                }
            }
        }
    }

    private static void widowsApart() {
        CouplesPaving x = Checks.of("square 6 6;");
        Checks.due("two of one colour", x.widows(0, 35), 0);
        Checks.due("a STONE's two cells", x.widows(0, 1) + x.widows(0, 6), 6728);
        Checks.due("far apart", x.widows(0, 30) > 0, true);
        CouplesPaving two = Checks.of("square 2 2; hole 0 0; hole 1 0;");
        Checks.due("nothing is left: one way", two.widows(2, 3), 1);
        CouplesPaving odd = Checks.of("square 3 3;");
        Checks.due("an odd number is left", odd.widows(0, 8), 0);
        CouplesPaving lies = Checks.of("square 3 2; stone 0 0 1; stone 1 0 0; stone 1 1 0;");
        Checks.due("STONES that lie not looked at", lies.widows(0, 5), 1);
        Checks.due("nor on the cells themselves", lies.widows(0, 1), 1);
    }

    private static void noWidows() {
        CouplesPaving x = Checks.of("square 3 2; hole 1 1; hole 0 0;");
        Checks.due("a HOLE first", x.widows(4, 1), -1);
        Checks.due("a HOLE second", x.widows(1, 4), -1);
        Checks.due("two HOLES", x.widows(0, 4), -1);
        Checks.due("one and the same", x.widows(5, 5), -1);
        Checks.due("one and the same HOLE", x.widows(4, 4), -1);
        for (int c : new int[] {-1, -2, 6, 7, 36, Integer.MAX_VALUE, Integer.MIN_VALUE}) {
            Checks.due("widows(" + c + ", 1)", x.widows(c, 1), -1);
            Checks.due("widows(1, " + c + ")", x.widows(1, c), -1);
            Checks.due("widows(" + c + ", " + c + ")", x.widows(c, c), -1);
        }
        Checks.due("the last cell", x.widows(2, 5), 0);
        Checks.due("the first cell", Checks.of("square 3 2;").widows(0, 5), 1);
    }
}
