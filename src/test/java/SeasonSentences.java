import java.math.BigInteger;

/** Sentences on seasons, on what is undone, and on chances: terms of part II and III, promises 12, 13, 28 and 29. */
final class SeasonSentences {
    private static final int[] NO_NUMBER_OF_SEASONS = {-1, -2, -60, 61, 62, 120, 1000, Integer.MAX_VALUE, Integer.MIN_VALUE};

    private SeasonSentences() {
    }

    static void tell(Sentences s) {
        s.terms(12);
        s.of("SEASONS are counted on.", SeasonSentences::countedOn);
        s.of("LOT n of a SEED and a which: h is the SEED; for each of 169, which: h becomes (h and it, each bit of which is"
            + " in just one) times 1103515245 and 12345 more, then h and h moved 15 bits down (zeros come in), likewise;"
            + " the rest of h, moved 1 bit down likewise, by n (32 bits that wrap).", SeasonSentences::lots);
        s.of("A SEASON, all by how it was as it began:", SeasonSentences::asItBegan);
        s.of("each STONE for which LOT 100 of the SEED and 32 * the season and the COUPLE is less than LOOSENS is lifted;",
            SeasonSentences::lotsLessThanLoosens);
        s.of("others lie a SEASON more.", SeasonSentences::aSeasonMore);
        s.of("It is the next season.", SeasonSentences::theNextSeason);
        s.of("SEASONS go by.", SeasonSentences::theyGoBy);
        s.terms(28);
        s.of("IN n SEASONS (0 .. 60): how many STONES lie; whether a cell has one.", SeasonSentences::foretold);
        s.terms(29);
        s.of("YEAR by s SEEDS (1 .. 20) from the text's SEED on: in how many of them no STONE that lies now was lifted"
            + " in n SEASONS (0 .. 60).", SeasonSentences::yearsBySeeds);
        s.promise(12);
        s.of("n SEASONS (0 .. 60; 0 is no thing done) go by: which it is;", SeasonSentences::whichItIs);
        s.of("NONE, and nothing happens: no such n.", SeasonSentences::noSuchNumber);
        s.promise(13);
        s.of("The last thing done (lay, lift, turn, pave, seasons) is undone: true;", SeasonSentences::theLastThingDone);
        s.of("false: there is none", SeasonSentences::thereIsNoneToUndo);
        s.of("(the last 40 can be).", SeasonSentences::theLastForty);
        s.promise(28);
        s.of("IN n SEASONS: how many STONES lie (cell NONE), else 1, 0: whether a cell has one;", SeasonSentences::inSeasons);
        s.of("NONE: no such ones.", SeasonSentences::inNoSuchSeasons);
        s.promise(29);
        s.of("YEAR;", SeasonSentences::years);
        s.of("NONE: no such ones.", SeasonSentences::noSuchYears);
    }

    // ---- lots, reckoned apart from the program

    private static final BigInteger ALL_BITS = BigInteger.ONE.shiftLeft(32);

    private static BigInteger mixed(BigInteger h, int with) {
        BigInteger m = h.xor(BigInteger.valueOf(with)).multiply(BigInteger.valueOf(1103515245)).add(BigInteger.valueOf(12345));
        m = m.mod(ALL_BITS);
        return m.xor(m.shiftRight(15));
    }

    private static int lot(int seed, int season, int couple) {
        BigInteger h = mixed(mixed(BigInteger.valueOf(seed), 169), 32 * season + couple);
        return h.shiftRight(1).mod(BigInteger.valueOf(100)).intValue();
    }

    /** The first of these seasons in which one of the couples has a LOT below the limit; to if none has. */
    private static int firstLifting(int seed, int couples, int limit, int from, int to) {
        for (int season = from; season < to; season++) {
            for (int c = 0; c < couples; c++) {
                if (lot(seed, season, c) < limit) {
                    return season;
                }
            }
        }
        return to;
    }

    private static void passed(CouplesPaving x, int seasons) {
        for (int left = seasons; left > 0; left -= 60) {
            x.seasons(Math.min(60, left));
        }
    }

    private static void lots() {
        int[][] seedsAndSeasons = {{0, 0}, {7, 1}, {9999, 2}, {169, 31}, {4321, 600}, {1, 13000}};
        for (int[] s : seedsAndSeasons) {
            String text = "square 6 6; seed " + s[0] + "; loosens = if season < " + Math.min(s[1], 9999) + " then 0 else ";
            for (int limit = 0; limit <= 100; limit += s[1] > 9999 ? 20 : 1) {
                String own = s[1] > 9999 ? "if season < 2 * " + s[1] / 2 + " then 0 else " : "";
                CouplesPaving x = Checks.of(text + own + limit + ";");
                x.pave(0);
                passed(x, s[1]);
                x.seasons(1);
                int due = 0;
                for (int c = 0; c < 18; c++) {
                    due |= lot(s[0], s[1], c) < limit ? 0 : 1 << c;
                }
                Checks.due("SEED " + s[0] + ", season " + s[1] + ", LOOSENS " + limit + ": COUPLES left", x.count(13), due);
            }
        }
        // As the document's words give them by hand.
        Checks.due("LOT 100 of SEED 7, season 0, COUPLE 0", lot(7, 0, 0), 4);
        Checks.due("LOT 100 of SEED 0, season 0, COUPLE 0", lot(0, 0, 0), 85);
    }

    private static void lotsLessThanLoosens() {
        // LOT 100 of SEED 7, season 0: 4, 33, 84, 16 of the COUPLES 0 .. 3; season 1: 90, 11, 70, 98.
        int[] limits = {4, 5, 16, 17, 33, 34, 84, 85};
        int[] left = {15, 14, 14, 6, 6, 4, 4, 0};
        for (int i = 0; i < limits.length; i++) {
            CouplesPaving x = Checks.of("square 4 2; seed 7; loosens = " + limits[i] + ";");
            x.pave(0);
            x.seasons(1);
            Checks.due("as much is not less: LOOSENS " + limits[i], x.count(13), left[i]);
            Checks.due("loosened", x.count(12), 4 - Integer.bitCount(left[i]));
        }
        CouplesPaving next = Checks.of("square 4 2; seed 7; loosens = if season < 1 then 0 else 12;");
        next.pave(0);
        next.seasons(2);
        Checks.due("by the season", next.count(13), 13);
        CouplesPaving other = Checks.of("square 4 2; seed 7; stone 2 0 0; loosens = 5;");
        other.seasons(1);
        Checks.due("by the COUPLE, not the cell", other.count(3), 0);
        Checks.due("nothing costs", next.count(6), 0);
    }

    private static void asItBegan() {
        CouplesPaving x = Checks.of("stone 0 0 0; stone 0 1 0; stone 0 2 0; loosens = if 2 < stones then 100 - which / 2 * 100 else 0;");
        x.seasons(1);
        Checks.due("two are lifted at once", x.count(13), 4);
        x.seasons(1);
        Checks.due("with one left none is", x.count(13), 4);
        CouplesPaving age = Checks.of("stone 0 0 0; loosens = if age < 1 then 0 else 100;");
        age.seasons(1);
        Checks.due("its age was 0", age.count(3), 1);
        age.seasons(1);
        Checks.due("its age was 1", age.count(3), 0);
        CouplesPaving season = Checks.of("stone 0 0 0; loosens = if season < 1 then 0 else 100;");
        season.seasons(1);
        Checks.due("the season was 0", season.count(3), 1);
        season.seasons(1);
        Checks.due("the season was 1", season.count(3), 0);
    }

    private static void aSeasonMore() {
        CouplesPaving x = Checks.of("stone 0 0 0; stone 2 0 0; loosens = 100 * which; lays = 1;");
        x.seasons(1);
        Checks.due("the one lies a SEASON", x.stone(0, 3), 1);
        Checks.due("the other is lifted", x.stone(1, 3), -2);
        x.seasons(60);
        x.seasons(39);
        Checks.due("100 SEASONS", x.stone(0, 3), 100);
        Checks.due("as it lay", x.stone(0, 0) * 100 + x.stone(0, 1) * 10 + x.stone(0, 2), 10);
        x.lay(2, 0);
        Checks.due("laid anew", x.stone(1, 3), 0);
    }

    private static void countedOn() {
        CouplesPaving x = Checks.of("stone 0 0 0;");
        Checks.due("at first", x.count(5), 0);
        x.seasons(60);
        x.lift(0);
        x.pave(0);
        x.seasons(2);
        Checks.due("on and on", x.count(5), 62);
        x.undo();
        Checks.due("undone", x.count(5), 60);
    }

    private static void theNextSeason() {
        CouplesPaving x = new CouplesPaving();
        for (int i = 1; i <= 70; i++) {
            Checks.due("seasons(1)", x.seasons(1), i);
            Checks.due("the season", x.count(5), i);
        }
    }

    // Many at once are the same as one by one.
    private static void theyGoBy() {
        String text = "square 6 4; seed 12; loosens = if which < 6 then 3 + age else stones;";
        CouplesPaving once = Checks.of(text);
        CouplesPaving slow = Checks.of(text);
        once.pave(100);
        slow.pave(100);
        Checks.due("five SEASONS", once.seasons(5), 5);
        for (int i = 0; i < 5; i++) {
            slow.seasons(1);
        }
        Checks.due("one by one", slow.count(13) * 100 + slow.count(12), once.count(13) * 100 + once.count(12));
        Checks.due("some are left, some are not", once.count(12) > 0 && once.count(3) > 0, true);
        Checks.due("things done", once.count(9) * 10 + slow.count(9), 26);
    }

    private static void whichItIs() {
        CouplesPaving x = Checks.of("stone 0 0 0; loosens = 1;");
        Checks.due("seasons(0)", x.seasons(0), 0);
        Checks.due("0 is no thing done", x.count(9), 0);
        Checks.due("nothing to undo", x.undo(), false);
        Checks.due("seasons(1)", x.seasons(1), 1);
        Checks.due("seasons(60)", x.seasons(60), 61);
        Checks.due("seasons(59)", x.seasons(59), 120);
        Checks.due("seasons(0)", x.seasons(0), 120);
        Checks.due("three things done", x.count(9), 3);
        x.undo();
        Checks.due("the last thing was 59", x.count(5), 61);
        CouplesPaving y = Checks.of("loosens = 100; stone 0 0 0;");
        Checks.due("seasons(0)", y.seasons(0), 0);
        Checks.due("none is lifted", y.count(3), 1);
        Checks.due("its age", y.stone(0, 3), 0);
    }

    private static void noSuchNumber() {
        CouplesPaving x = Checks.of("stone 0 0 0; stone 0 1 0; loosens = 100;");
        x.turn(0);
        int[] before = Checks.state(x);
        for (int n : NO_NUMBER_OF_SEASONS) {
            Checks.due("seasons(" + n + ")", x.seasons(n), -1);
        }
        Checks.sameState("no such n", x, before);
        Checks.due("60 is one", x.seasons(60), 60);
    }

    // ---- undone

    private static final String BUSY = "square 2 3; stone 0 2 0; lays = 7; asks = 3; loosens = if which < 1 then age * 50 else 0;";
    private static final String[] DEEDS = {"lay(0, 0)", "lay(2, 0)", "turn(0)", "seasons(4)", "lift(3)", "pave(1)", "lay(0, 1)"};

    private static void deed(CouplesPaving x, int i) {
        switch (i) {
            case 0: Checks.due(DEEDS[i], x.lay(0, 0), 1); break;
            case 1: Checks.due(DEEDS[i], x.lay(2, 0), 2); break;
            case 2: Checks.due(DEEDS[i], x.turn(0), 6); break;
            case 3: Checks.due(DEEDS[i], x.seasons(4), 4); break;
            case 4: Checks.due(DEEDS[i], x.lift(3), true); break;
            case 5: Checks.due(DEEDS[i], x.pave(1), true); break;
            default: Checks.due(DEEDS[i], x.lay(0, 1), -1); break;
        }
    }

    private static void theLastThingDone() {
        CouplesPaving shown = Checks.of(BUSY);
        CouplesPaving x = Checks.of(BUSY);
        int[][] states = new int[7][];
        for (int i = 0; i < 7; i++) {
            states[i] = Checks.state(shown);
            deed(shown, i);
            deed(x, i);
        }
        Checks.due("the first was loosened", x.count(12), 1);
        for (int i = 5; i >= 0; i--) {
            Checks.due("undo of " + DEEDS[i], x.undo(), true);
            Checks.sameState("undo of " + DEEDS[i], x, states[i]);
        }
        Checks.due("what was undone can not be again", x.undo(), false);
        deed(x, 0);
        Checks.sameState("what is done again", x, states[1]);
    }

    private static void thereIsNoneToUndo() {
        CouplesPaving x = new CouplesPaving();
        Checks.due("of a new object", x.undo(), false);
        Checks.read(x, "stone 0 0 0; stone 2 2 1; lays = 3;");
        int[] before = Checks.state(x);
        Checks.due("of a new text", x.undo(), false);
        Checks.sameState("undo of nothing", x, before);
        // What is no thing done: what is refused, held, told, fed, asked, or no SEASON.
        x.lay(0, 0);
        x.lift(15);
        x.turn(0);
        x.pave(36);
        x.seasons(61);
        x.seasons(0);
        x.hold(0);
        x.tell(0, true);
        x.forget();
        x.feed(0, 0, 0, 0, 0);
        x.read();
        x.rest();
        x.then(-1, 60);
        Checks.due("no thing was done", x.undo(), false);
        x.lay(2, 0);
        x.restore(0);
        Checks.due("after restore", x.undo(), false);
        x.lay(2, 0);
        Checks.read(x, "seed 1;");
        Checks.due("after a new text", x.undo(), false);
        x.lay(2, 0);
        Checks.read(x, "seed");
        Checks.due("after a text with a FAULT", x.undo(), true);
        Checks.due("only once", x.undo(), false);
    }

    private static void theLastForty() {
        CouplesPaving x = new CouplesPaving();
        for (int i = 1; i <= 41; i++) {
            x.seasons(1);
            Checks.due("things that can be undone", x.count(9), Math.min(i, 40));
        }
        for (int i = 40; i >= 1; i--) {
            Checks.due("undo", x.undo(), true);
            Checks.due("the season", x.count(5), i);
        }
        Checks.due("the 41st from the last", x.undo(), false);
        Checks.due("stays done", x.count(5), 1);
        // Some undone, others done instead: still the last 40.
        for (int i = 0; i < 38; i++) {
            x.seasons(1);
        }
        for (int i = 0; i < 10; i++) {
            x.undo();
        }
        Checks.due("28 are left", x.count(9) * 100 + x.count(5), 2829);
        for (int i = 0; i < 25; i++) {
            x.seasons(2);
        }
        Checks.due("40 of 53", x.count(9) * 100 + x.count(5), 4079);
        for (int i = 0; i < 40; i++) {
            Checks.due("undo", x.undo(), true);
        }
        Checks.due("undo", x.undo(), false);
        Checks.due("13 of the first ones stay", x.count(5), 14);
        CouplesPaving exact = new CouplesPaving();
        for (int i = 0; i < 40; i++) {
            exact.lay(0, 0);
            exact.undo();
            exact.seasons(1);
        }
        for (int i = 0; i < 40; i++) {
            Checks.due("just 40", exact.undo(), true);
        }
        Checks.due("all undone", exact.count(5) * 10 + exact.count(9), 0);
    }

    // ---- what would be

    private static void foretold() {
        String[] texts = {"square 6 4; seed 12; loosens = if which < 6 then 3 + age else stones;",
            "square 4 4; seed 9999; loosens = 2 + top;", "square 2 2; loosens = 100 * which;", "square 2 3; loosens = season / 7 * 5; seed 100;",
            "square 6 3; loosens = 4 * left; seed 31;", "square 3 6; loosens = 4 * top; seed 8;", "square 2 6; loosens = 20 * left + turned;"};
        for (String text : texts) {
            CouplesPaving x = Checks.of(text);
            x.pave(x.all() - 1);
            x.seasons(1);
            x.hold(0);
            for (int n : new int[] {0, 1, 2, 3, 10, 59, 60}) {
                int many = x.then(-1, n);
                int first = x.then(0, n);
                int last = x.then(x.count(0) * x.count(1) - 1, n);
                Checks.due("nothing happens", x.count(5) * 100 + x.count(9), n == 0 ? 102 : 100);
                x.seasons(n);
                Checks.due(text + " IN " + n + " SEASONS", many, x.count(3));
                Checks.due(text + " IN " + n + ": the first cell", first, x.cell(0, 0));
                Checks.due(text + " IN " + n + ": the last cell", last, x.cell(x.count(0) * x.count(1) - 1, 0));
                x.restore(0);
            }
        }
    }

    private static void inSeasons() {
        CouplesPaving x = Checks.of("square 4 2; seed 7; loosens = 17; hole 3 1;");
        x.lay(0, 0);
        x.lay(2, 0);
        x.lay(4, 0);
        // LOT 100 in season 0: 4, 33, 84; in season 1: 90, 11, 70.
        int[][] due = {{3, 1, 1, 1, 1, 1, 1, 0, 0}, {2, 0, 0, 1, 1, 1, 1, 0, 0}, {1, 0, 0, 0, 0, 1, 1, 0, 0}};
        for (int n = 0; n < due.length; n++) {
            for (int cell = -1; cell < 8; cell++) {
                Checks.due("then(" + cell + ", " + n + ")", x.then(cell, n), due[n][cell + 1]);
            }
        }
        Checks.due("they lie all the same", x.count(13), 7);
        Checks.due("of nothing", new CouplesPaving().then(-1, 60), 0);
        Checks.due("of nothing on a cell", new CouplesPaving().then(15, 60), 0);
    }

    private static void inNoSuchSeasons() {
        CouplesPaving x = Checks.of("square 3 2; hole 0 0; stone 1 0 0; loosens = 100;");
        int[] before = Checks.state(x);
        for (int n : NO_NUMBER_OF_SEASONS) {
            Checks.due("then(NONE, " + n + ")", x.then(-1, n), -1);
            Checks.due("then(1, " + n + ")", x.then(1, n), -1);
            Checks.due("then(6, " + n + ")", x.then(6, n), -1);
        }
        for (int cell : new int[] {-2, -3, 6, 7, 36, Integer.MAX_VALUE, Integer.MIN_VALUE}) {
            Checks.due("then(" + cell + ", 0)", x.then(cell, 0), -1);
            Checks.due("then(" + cell + ", 60)", x.then(cell, 60), -1);
        }
        Checks.due("a HOLE has none", x.then(0, 0), 0);
        Checks.due("the last cell", x.then(5, 60), 0);
        Checks.sameState("then", x, before);
    }

    private static int yearsDue(int seed, int couples, int limit, int from, int n, int s) {
        int good = 0;
        for (int k = 0; k < s; k++) {
            good += firstLifting(seed + k, couples, limit, from, from + n) == from + n ? 1 : 0;
        }
        return good;
    }

    private static void yearsBySeeds() {
        int[][] worlds = {{0, 2, 30, 0}, {9999, 1, 25, 3}, {9990, 8, 2, 0}, {5000, 4, 1, 60}, {7, 1, 1, 0}};
        for (int[] w : worlds) {
            CouplesPaving x = Checks.of("seed " + w[0] + "; loosens = if season < " + w[3] + " then 0 else " + w[2] + ";");
            for (int c = 0; c < w[1]; c++) {
                x.lay(2 * c, 0);
            }
            x.seasons(w[3]);
            for (int n : new int[] {0, 1, 2, 3, 7, 30, 60}) {
                for (int s : new int[] {1, 2, 3, 10, 19, 20}) {
                    Checks.due("SEED " + w[0] + ", " + w[1] + " STONES: year(" + n + ", " + s + ")", x.year(n, s),
                        yearsDue(w[0], w[1], w[2], w[3], n, s));
                }
            }
        }
    }

    /** Of 20 SEEDS from this one on, how many have a LOT above 0 (the one less than 1) for a COUPLE in a season. */
    private static int yearsOfOne(int seed, int couple, int season) {
        int good = 0;
        for (int k = 0; k < 20; k++) {
            good += lot(seed + k, season, couple) < 1 ? 0 : 1;
        }
        return good;
    }

    private static void years() {
        CouplesPaving x = Checks.of("stone 0 0 0; loosens = 100;");
        Checks.due("no SEASON, one SEED", x.year(0, 1), 1);
        Checks.due("no SEASON, 20 SEEDS", x.year(0, 20), 20);
        Checks.due("one SEASON", x.year(1, 20), 0);
        Checks.due("60 SEASONS", x.year(60, 20), 0);
        x.seasons(1);
        Checks.due("none that lies now was lifted", x.year(60, 20), 20);
        CouplesPaving old = Checks.of("stone 0 0 0; stone 2 0 0; loosens = if 5 < age then 100 else 0;");
        Checks.due("up to the age of 6", old.year(6, 20), 20);
        Checks.due("and no more", old.year(7, 20), 0);
        old.seasons(3);
        Checks.due("three SEASONS later", old.year(3, 7) * 10 + old.year(4, 7), 70);
        CouplesPaving one = Checks.of("stone 0 0 0; stone 2 0 0; loosens = if stones < 2 then 0 else which * 100;");
        Checks.due("one of two is enough", one.year(1, 5), 0);
        CouplesPaving right = Checks.of("square 6 2; stone 4 0 0; stone 4 1 0; loosens = if left < 4 then 100 else if top < 1 then 0 else age * 20 - 79;");
        Checks.due("by left and top as well", right.year(4, 9), 9);
        Checks.due("seen in the fifth SEASON", right.year(5, 20), yearsOfOne(0, 1, 4));
        Checks.due("of an empty SQUARE", new CouplesPaving().year(60, 20), 20);
        CouplesPaving last = Checks.of("stone 0 0 0; loosens = if season < 59 then 0 else 100;");
        Checks.due("59 SEASONS", last.year(59, 20), 20);
        Checks.due("the 60th", last.year(60, 20), 0);
    }

    private static void noSuchYears() {
        CouplesPaving x = Checks.of("stone 0 0 0; loosens = 50;");
        int[] before = Checks.state(x);
        for (int n : NO_NUMBER_OF_SEASONS) {
            Checks.due("year(" + n + ", 1)", x.year(n, 1), -1);
            Checks.due("year(" + n + ", 20)", x.year(n, 20), -1);
        }
        for (int s : new int[] {0, -1, 21, 22, 32, 60, Integer.MAX_VALUE, Integer.MIN_VALUE}) {
            Checks.due("year(0, " + s + ")", x.year(0, s), -1);
            Checks.due("year(60, " + s + ")", x.year(60, s), -1);
        }
        Checks.due("year(60, 20)", x.year(60, 20) >= 0, true);
        Checks.sameState("year", x, before);
    }
}
