/** Sentences on cells and stones, laid, lifted, turned and paved: terms of part II, and promises 6 to 11. */
final class StoneSentences {
    private static final int[] FAR = {Integer.MIN_VALUE, Integer.MIN_VALUE + 1, -65536, -2, -1, 1000, 65536,
        Integer.MAX_VALUE - 1, Integer.MAX_VALUE};

    private StoneSentences() {
    }

    static void tell(Sentences s) {
        tellCells(s);
        tellHands(s);
        s.promise(6);
        s.of("Of a cell: what 0: 0 nothing, 1 a STONE, 2 a HOLE,", StoneSentences::whatLiesOnACell);
        s.of("1 the other cell of its STONE (-2: none), 2 the COUPLE (-2: none),", StoneSentences::theOtherCell);
        s.of("3: 1 BLACK, 0 WHITE.", StoneSentences::coloursOfCells);
        s.of("NONE for others.", StoneSentences::noSuchCell);
        s.promise(7);
        s.of("Of the STONE of a COUPLE: what 0 its FIRST cell, 1: 1 ACROSS, 0 DOWN, 2 turned, 3 age, 4 ASKS, 5 LOOSENS now;",
            StoneSentences::whatAStoneTells);
        s.of("-2: it has none;", StoneSentences::coupleWithoutStone);
        s.of("NONE: no such ones.", StoneSentences::noSuchCouple);
        s.promise(8);
        s.of("LAID (way 0 ACROSS, 1 DOWN, cell its FIRST cell): which COUPLE;", StoneSentences::laidByItsFirstCell);
        s.of("NONE, and nothing happens: not two cells without HOLES, STONES,", StoneSentences::notTwoCells);
        s.of("no such ones.", StoneSentences::noSuchCellToLayOn);
        s.promise(9);
        s.of("LIFTED: true;", StoneSentences::liftedByACell);
        s.of("false, and nothing happens: no STONE is on that cell, no such cell.", StoneSentences::nothingToLift);
        s.promise(10);
        s.of("A BLOCK is TURNED: what is paid;", StoneSentences::turnedForPay);
        s.of("NONE, and nothing happens: it can not be, no such cell.", StoneSentences::canNotBeTurned);
        s.promise(11);
        s.of("PAVED: true;", StoneSentences::pavedByNumber);
        s.of("false, and nothing happens: no such PAVING.", StoneSentences::noSuchPaving);
    }

    private static void tellCells(Sentences s) {
        s.terms(6);
        s.of("A cell's number: WIDE * Y + X; it is BLACK if X + Y is even, else WHITE.", StoneSentences::numbersOfCells);
        s.terms(8);
        s.of("STONES are laid by COUPLES; a COUPLE's number is the least, of 0 .. 17, that no STONE laid has.",
            StoneSentences::theLeastCouple);
        s.terms(9);
        s.of("A STONE is told by either of its cells; its FIRST cell: the LEFT, TOP one.", StoneSentences::eitherOfItsCells);
    }

    private static void tellHands(Sentences s) {
        s.terms(10);
        s.of("A BLOCK is told by its LEFT TOP cell: that, the one right of it, the two below.", StoneSentences::fourCells);
        s.of("It can be TURNED if two STONES, both ACROSS or both DOWN, are just these four cells:",
            StoneSentences::justTheseFour);
        s.of("ASKS of both is paid, all by how it was ahead;", StoneSentences::paidByHowItWas);
        s.of("then both ACROSS lie DOWN, the upper one LEFT;", StoneSentences::acrossToDown);
        s.of("both DOWN lie ACROSS, the LEFT one above;", StoneSentences::downToAcross);
        s.of("each was TURNED once more.", StoneSentences::turnedOnceMore);
        s.terms(8);
        s.of("By hand: a STONE is LAID on two cells without HOLES, STONES (LAYS is paid; stones told at first cost nothing);",
            StoneSentences::laysIsPaid);
        s.terms(9);
        s.of("one is LIFTED;", StoneSentences::oneIsLifted);
        s.terms(10);
        s.of("a BLOCK is TURNED;", StoneSentences::aBlockIsTurned);
        s.terms(11);
        s.of("the SQUARE is PAVED by number: all STONES are lifted, then the i-th PAVING is laid, cell by cell,"
            + " COUPLES 0, 1 .. (nothing is paid);", StoneSentences::allLiftedThenLaid);
    }

    // ---- cells

    private static void numbersOfCells() {
        for (int wide = 2; wide <= 6; wide++) {
            for (int high = 2; high <= 6; high++) {
                for (int i = 0; i < wide * high; i++) {
                    int x = i % wide;
                    int y = i / wide;
                    CouplesPaving one = Checks.of("square " + wide + " " + high + "; hole " + x + " " + y + ";");
                    Checks.due("the HOLE " + x + " " + y + " of " + wide + " by " + high, one.cell(wide * y + x, 0), 2);
                    Checks.due("BLACK " + x + " " + y, one.cell(wide * y + x, 3), (x + y) % 2 == 0 ? 1 : 0);
                }
            }
        }
    }

    private static void theLeastCouple() {
        CouplesPaving x = Checks.of("square 6 6;");
        for (int i = 0; i < 18; i++) {
            Checks.due("in order", x.lay(2 * i, 0), i);
        }
        Checks.due("all of them lie", x.count(13), (1 << 18) - 1);
        x.lift(34);
        Checks.due("the only one is the last", x.lay(34, 0), 17);
        x.lift(24);
        x.lift(13);
        x.lift(35);
        Checks.due("the least of three", x.lay(34, 0), 6);
        Checks.due("the least of two", x.lay(12, 0), 12);
        Checks.due("the one left", x.lay(24, 0), 17);
        x.lift(0);
        x.lift(35);
        Checks.due("0 again", x.lay(34, 0), 0);
        CouplesPaving told = Checks.of("stone 0 0 0; stone 2 0 0; stone 0 1 0; loosens = if which < 1 then 100 else 0;");
        Checks.due("behind the told ones", told.lay(6, 0), 3);
        told.seasons(1);
        Checks.due("a loosened one's", told.lay(8, 0), 0);
        told.undo();
        told.undo();
        Checks.due("not that of what was undone", told.lay(8, 0), 4);
    }

    private static void eitherOfItsCells() {
        String text = "square 3 3; stone 1 0 0; stone 0 1 1; stone 2 1 1;";
        int[] cells = {1, 2, 3, 6, 5, 8};
        for (int i = 0; i < cells.length; i++) {
            CouplesPaving x = Checks.of(text);
            Checks.due("the COUPLE on " + cells[i], x.cell(cells[i], 2), i / 2);
            Checks.due("its FIRST cell", x.stone(i / 2, 0), cells[i / 2 * 2]);
            Checks.due("the other cell", x.cell(cells[i], 1), cells[i ^ 1]);
            Checks.due("lifted by " + cells[i], x.lift(cells[i]), true);
            Checks.due("it lies no more", x.count(13), 7 & ~(1 << i / 2));
            Checks.due("nor on its other cell", x.cell(cells[i ^ 1], 0), 0);
        }
    }

    private static void whatLiesOnACell() {
        CouplesPaving x = Checks.of("square 2 3; hole 0 0; hole 1 2; stone 1 0 1;");
        int[] lies = {2, 1, 0, 1, 0, 2};
        for (int c = 0; c < 6; c++) {
            Checks.due("cell(" + c + ", 0)", x.cell(c, 0), lies[c]);
        }
        x.lift(1);
        Checks.due("lifted", x.cell(1, 0) + x.cell(3, 0), 0);
        x.lay(2, 1);
        Checks.due("laid", x.cell(2, 0) * 10 + x.cell(4, 0), 11);
    }

    private static void theOtherCell() {
        CouplesPaving x = Checks.of("square 3 3; hole 2 2; stone 1 1 0; stone 0 1 1;");
        int[] other = {-2, -2, -2, 6, 5, 4, 3, -2, -2};
        int[] couple = {-2, -2, -2, 1, 0, 0, 1, -2, -2};
        for (int c = 0; c < 9; c++) {
            Checks.due("cell(" + c + ", 1)", x.cell(c, 1), other[c]);
            Checks.due("cell(" + c + ", 2)", x.cell(c, 2), couple[c]);
        }
    }

    private static void coloursOfCells() {
        CouplesPaving x = Checks.of("square 5 2; hole 0 0; hole 1 0; stone 2 0 1;");
        for (int c = 0; c < 10; c++) {
            Checks.due("colour of " + c, x.cell(c, 3), (c % 5 + c / 5) % 2 == 0 ? 1 : 0);
        }
    }

    private static void noSuchCell() {
        int[] cells = {4, 6, 6, 9, 12, 36};
        String[] squares = {"2 2", "3 2", "2 3", "3 3", "6 2", "6 6"};
        for (int i = 0; i < cells.length; i++) {
            CouplesPaving x = Checks.of("square " + squares[i] + ";");
            for (int what = -1; what <= 4; what++) {
                boolean is = what >= 0 && what <= 3;
                Checks.due("the last cell, what " + what, x.cell(cells[i] - 1, what) == -1, !is);
                Checks.due("one behind the last, what " + what, x.cell(cells[i], what), -1);
                Checks.due("one ahead of the first, what " + what, x.cell(-1, what), -1);
            }
        }
        CouplesPaving y = Checks.of("hole 0 0; stone 1 0 0;");
        for (int far : FAR) {
            for (int what = 0; what <= 3; what++) {
                Checks.due("cell(" + far + ", " + what + ")", y.cell(far, what), -1);
            }
            for (int c = 0; c < 4; c++) {
                Checks.due("cell(" + c + ", " + far + ")", y.cell(c, far), -1);
            }
        }
        for (int c = 0; c < 4; c++) {
            Checks.due("cell(" + c + ", 4)", y.cell(c, 4), -1);
        }
    }

    // ---- stones

    private static void whatAStoneTells() {
        CouplesPaving x = Checks.of("square 3 2; stone 1 0 0; stone 1 1 0; asks = 40 + 10 * which + turned; loosens = age * 30 - 29;");
        int[][] first = {{1, 1, 0, 0, 40, 0}, {4, 1, 0, 0, 50, 0}};
        int[][] turned = {{1, 0, 1, 0, 41, 0}, {2, 0, 1, 0, 51, 0}};
        int[][] old = {{1, 0, 1, 1, 41, 1}, {2, 0, 1, 1, 51, 1}};
        stonesTell("as told", x, first);
        x.turn(1);
        stonesTell("turned", x, turned);
        x.seasons(1);
        stonesTell("a SEASON old", x, old);
        x.lift(1);
        x.lay(0, 1);
        stonesTell("laid anew", x, new int[][] {{0, 0, 0, 0, 40, 0}, old[1]});
    }

    private static void stonesTell(String when, CouplesPaving x, int[][] due) {
        for (int couple = 0; couple < due.length; couple++) {
            for (int what = 0; what < 6; what++) {
                Checks.due(when + ": stone(" + couple + ", " + what + ")", x.stone(couple, what), due[couple][what]);
            }
        }
    }

    private static void coupleWithoutStone() {
        CouplesPaving x = Checks.of("stone 0 0 0; stone 2 0 0;");
        x.lift(0);
        for (int couple : new int[] {0, 2, 16, 17}) {
            for (int what = 0; what < 6; what++) {
                Checks.due("stone(" + couple + ", " + what + ")", x.stone(couple, what), -2);
            }
        }
        Checks.due("the other lies", x.stone(1, 0), 2);
        CouplesPaving full = Checks.of("square 6 6;");
        Checks.due("the last of 18, before", full.stone(17, 0), -2);
        full.pave(0);
        Checks.due("the last of 18", full.stone(17, 0), 34);
        CouplesPaving loose = Checks.of("stone 0 0 0; loosens = 100;");
        loose.seasons(1);
        Checks.due("a loosened one", loose.stone(0, 3), -2);
    }

    private static void noSuchCouple() {
        CouplesPaving x = Checks.of("square 6 6;");
        x.pave(6727);
        x.lift(0);
        for (int far : FAR) {
            for (int i = 0; i < 6; i++) {
                Checks.due("stone(" + far + ", " + i + ")", x.stone(far, i), -1);
            }
            Checks.due("of a STONE: stone(17, " + far + ")", x.stone(17, far), -1);
            Checks.due("of none: stone(0, " + far + ")", x.stone(0, far), -1);
        }
        for (int what = -1; what <= 6; what++) {
            Checks.due("stone(18, " + what + ")", x.stone(18, what), -1);
            Checks.due("stone(-1, " + what + ")", x.stone(-1, what), -1);
        }
        Checks.due("stone(17, 6)", x.stone(17, 6), -1);
        Checks.due("stone(0, 6)", x.stone(0, 6), -1);
    }

    // ---- laid and lifted

    private static void laidByItsFirstCell() {
        CouplesPaving x = Checks.of("square 3 3;");
        Checks.due("ACROSS", x.lay(0, 0), 0);
        Checks.due("on it and the one right of it", x.cell(0, 1) * 10 + x.cell(1, 1), 10);
        Checks.due("DOWN", x.lay(2, 1), 1);
        Checks.due("on it and the one below", x.cell(2, 1) * 10 + x.cell(5, 1), 52);
        Checks.due("to the last cell, ACROSS", x.lay(7, 0), 2);
        Checks.due("its FIRST cell", x.stone(2, 0), 7);
        Checks.due("each is a thing done", x.count(9), 3);
        x.lift(8);
        Checks.due("into the last row, DOWN", x.lay(3, 1), 2);
        Checks.due("its cells", x.cell(3, 1) * 10 + x.cell(6, 1), 63);
        Checks.due("it is new", x.stone(2, 2) + x.stone(2, 3), 0);
    }

    private static void notTwoCells() {
        CouplesPaving x = Checks.of("square 4 3; hole 1 0; hole 0 2; stone 2 1 0; lays = 5; loosens = 3; asks = which;");
        int[][] refused = {
            {1, 0}, {1, 1}, {8, 0}, {0, 0}, {4, 1},
            {6, 0}, {6, 1}, {7, 1}, {5, 0}, {2, 1}, {3, 1},
            {3, 0}, {7, 0}, {11, 0}, {9, 1}, {10, 1}, {11, 1}, {8, 1}};
        int[] before = Checks.state(x);
        for (int[] r : refused) {
            Checks.due("lay(" + r[0] + ", " + r[1] + ")", x.lay(r[0], r[1]), -1);
        }
        Checks.sameState("what could not be laid", x, before);
        CouplesPaving full = Checks.of("square 2 2; lays = 5;");
        full.pave(0);
        for (int c = 0; c < 4; c++) {
            Checks.due("on a full SQUARE", full.lay(c, 0) + full.lay(c, 1), -2);
        }
        CouplesPaving holes = Checks.of("square 2 2; hole 0 0; hole 1 0; hole 0 1;");
        for (int c = 0; c < 4; c++) {
            Checks.due("on one cell", holes.lay(c, 0) + holes.lay(c, 1), -2);
        }
        Checks.due("nothing was done", full.count(9) * 10 + holes.count(9), 10);
    }

    private static void noSuchCellToLayOn() {
        CouplesPaving x = Checks.of("square 3 2; lays = 4;");
        int[] before = Checks.state(x);
        for (int far : FAR) {
            Checks.due("lay(" + far + ", 0)", x.lay(far, 0), -1);
            Checks.due("lay(" + far + ", 1)", x.lay(far, 1), -1);
            Checks.due("lay(0, " + far + ")", x.lay(0, far), -1);
        }
        Checks.due("one behind the last", x.lay(6, 0) + x.lay(6, 1), -2);
        Checks.due("way 2", x.lay(0, 2), -1);
        Checks.sameState("what could not be laid", x, before);
    }

    private static void laysIsPaid() {
        CouplesPaving x = Checks.of("square 3 2; hole 1 0; stone 0 0 1; lays = 7;");
        Checks.due("stones told at first cost nothing", x.count(6), 0);
        Checks.due("laid", x.lay(4, 0), 1);
        Checks.due("LAYS is paid", x.count(6), 7);
        Checks.due("on STONES", x.lay(2, 1), -1);
        Checks.due("is not paid", x.count(6), 7);
        x.lift(4);
        Checks.due("nothing back for one lifted", x.count(6), 7);
        Checks.due("laid again", x.lay(2, 1), 1);
        Checks.due("LAYS is paid again", x.count(6), 14);
    }

    private static void liftedByACell() {
        CouplesPaving x = Checks.of("square 3 2; stone 0 0 1; stone 1 1 0; lays = 3; asks = 4;");
        Checks.due("by its second cell", x.lift(5), true);
        Checks.due("by its FIRST cell", x.lift(0), true);
        Checks.due("none lies", x.count(3) + x.count(13), 0);
        Checks.due("things done", x.count(9), 2);
        Checks.due("not loosened, not paid", x.count(12) + x.count(6), 0);
    }

    private static void nothingToLift() {
        CouplesPaving x = Checks.of("square 3 2; hole 0 0; stone 1 0 0; lays = 3;");
        int[] before = Checks.state(x);
        for (int c : new int[] {0, 3, 4, 5, 6, 7, 12, 36}) {
            Checks.due("lift(" + c + ")", x.lift(c), false);
        }
        for (int far : FAR) {
            Checks.due("lift(" + far + ")", x.lift(far), false);
        }
        Checks.sameState("what could not be lifted", x, before);
        x.lift(1);
        Checks.due("it is lifted already", x.lift(1), false);
        Checks.due("one thing done", x.count(9), 1);
    }

    private static void oneIsLifted() {
        CouplesPaving x = Checks.of("square 2 2; stone 0 0 0; stone 0 1 0; lays = 9; asks = 5;");
        Checks.due("lift", x.lift(0), true);
        Checks.due("one", x.count(13), 2);
        Checks.due("its cells are free", x.cell(0, 0) + x.cell(1, 0), 0);
        Checks.due("the other lies on", x.cell(2, 1) * 10 + x.cell(3, 1), 32);
        Checks.due("by hand: not loosened", x.count(12), 0);
        Checks.due("it costs nothing", x.count(6), 0);
    }

    // ---- blocks

    private static void fourCells() {
        String[] texts = {"stone 1 1 0; stone 1 2 0;", "stone 1 1 1; stone 2 1 1;"};
        for (String text : texts) {
            for (int c = 0; c < 16; c++) {
                CouplesPaving x = Checks.of(text);
                Checks.due(text + " turn(" + c + ")", x.turn(c), c == 5 ? 2 : -1);
            }
        }
        for (int[] corner : new int[][] {{0, 0, 0}, {4, 0, 4}, {0, 4, 24}, {4, 4, 28}}) {
            String stone = " stone " + corner[0] + " ";
            CouplesPaving x = Checks.of("square 6 6;" + stone + corner[1] + " 0;" + stone + (corner[1] + 1) + " 0;");
            Checks.due("in a corner", x.turn(corner[2]), 2);
        }
    }

    private static void justTheseFour() {
        String[] others = {"stone 0 0 0;", "stone 0 1 0;", "stone 0 0 1;", "stone 1 0 1;",
            "stone 0 0 0; stone 1 1 0;", "stone 0 0 0; stone 0 1 1; stone 1 1 1;", "stone 0 0 0; stone 0 1 1; stone 1 1 0;",
            "stone 0 0 1; stone 1 0 0; stone 1 1 0;", "stone 0 0 1; stone 1 1 1;", "stone 0 0 1; stone 1 0 0; stone 1 1 1;",
            "stone 0 0 0; stone 2 0 0; stone 2 1 0;", "stone 0 0 0; stone 0 2 0;", "stone 0 0 1; stone 2 0 1;"};
        for (String text : others) {
            Checks.due(text, Checks.of(text).turn(0), -1);
        }
        // At 5: one of the two reaches out to the left, to the right, above, below.
        String[] out = {"stone 0 1 0; stone 2 1 0; stone 1 2 0;", "stone 1 1 0; stone 0 2 0; stone 2 2 0;",
            "stone 0 1 0; stone 2 1 0; stone 0 2 0; stone 2 2 0;",
            "stone 1 1 1; stone 2 0 1; stone 2 2 1;", "stone 1 0 1; stone 1 2 1; stone 2 1 1;",
            "stone 1 0 1; stone 1 2 1; stone 2 0 1; stone 2 2 1;"};
        for (String text : out) {
            Checks.due(text, Checks.of(text).turn(5), -1);
        }
        // Beyond the right edge the numbers go on in the next row: that is no BLOCK.
        Checks.due("from row to row", Checks.of("stone 3 0 1; stone 0 1 1;").turn(3), -1);
        Checks.due("from row to row", Checks.of("square 2 4; stone 1 0 1; stone 0 1 1;").turn(1), -1);
        Checks.due("both ACROSS", Checks.of("stone 0 0 0; stone 0 1 0;").turn(0), 2);
        Checks.due("both DOWN", Checks.of("stone 0 0 1; stone 1 0 1;").turn(0), 2);
    }

    private static void paidByHowItWas() {
        CouplesPaving x = Checks.of("square 2 2; stone 0 0 0; stone 0 1 0;"
            + " asks = 1 + 10 * across + 20 * turned + 5 * top + 2 * left;");
        Checks.due("11 and 16", x.turn(0), 27);
        Checks.due("21 and 23", x.turn(0), 44);
        Checks.due("51 and 56", x.turn(0), 107);
        Checks.due("all of it was paid", x.count(6), 178);
        Checks.due("61 and 63", x.cheapest(1), 124);
        CouplesPaving free = Checks.of("square 2 2; stone 0 0 0; stone 0 1 0; asks = 0 - 1;");
        Checks.due("nothing is paid", free.turn(0), 0);
        Checks.due("it was turned", free.count(4) * 10 + free.count(9), 1);
        CouplesPaving dear = Checks.of("square 2 2; stone 0 0 1; stone 1 0 1; asks = 9999;");
        Checks.due("99 and 99", dear.turn(0), 198);
    }

    private static void acrossToDown() {
        CouplesPaving x = Checks.of("square 3 3; stone 1 2 0; stone 1 1 0;");
        x.turn(4);
        Checks.due("the upper one LEFT", x.cell(4, 2) * 10 + x.cell(7, 2), 11);
        Checks.due("the lower one right", x.cell(5, 2) * 10 + x.cell(8, 2), 0);
        Checks.due("both DOWN", x.stone(0, 1) + x.stone(1, 1), 0);
        Checks.due("their FIRST cells", x.stone(1, 0) * 10 + x.stone(0, 0), 45);
        Checks.due("other cells", x.cell(4, 1) * 10 + x.cell(8, 1), 75);
        CouplesPaving y = Checks.of("square 2 2; stone 0 0 0; stone 0 1 0;");
        y.turn(0);
        Checks.due("the upper one LEFT", y.cell(0, 2) * 10 + y.cell(2, 2), 0);
        Checks.due("none ACROSS", y.count(4), 0);
    }

    private static void downToAcross() {
        CouplesPaving x = Checks.of("square 3 3; stone 2 0 1; stone 1 0 1;");
        x.turn(1);
        Checks.due("the LEFT one above", x.cell(1, 2) * 10 + x.cell(2, 2), 11);
        Checks.due("the other below", x.cell(4, 2) * 10 + x.cell(5, 2), 0);
        Checks.due("both ACROSS", x.count(4), 2);
        Checks.due("their FIRST cells", x.stone(1, 0) * 10 + x.stone(0, 0), 14);
        Checks.due("other cells", x.cell(2, 1) * 10 + x.cell(4, 1), 15);
        CouplesPaving y = Checks.of("square 2 2; stone 0 0 1; stone 1 0 1;");
        y.turn(0);
        Checks.due("the LEFT one above", y.cell(0, 2) * 10 + y.cell(1, 2), 0);
    }

    private static void turnedOnceMore() {
        CouplesPaving x = Checks.of("square 4 2; stone 0 0 0; stone 0 1 0; stone 2 0 1;");
        for (int i = 1; i <= 50; i++) {
            x.turn(0);
            Checks.due("turned " + i + " times", x.stone(0, 2) * 100 + x.stone(1, 2), 101 * i);
        }
        Checks.due("the one beside was not", x.stone(2, 2), 0);
        x.lay(3, 1);
        x.turn(2);
        Checks.due("each by itself", x.stone(2, 2) * 10 + x.stone(3, 2), 11);
        x.turn(1);
        Checks.due("no BLOCK there", x.count(16), 102);
    }

    private static void turnedForPay() {
        CouplesPaving x = Checks.of("square 4 2; stone 0 0 0; stone 0 1 0; stone 2 0 1; stone 3 0 1; asks = 3 + which;");
        Checks.due("3 and 4", x.turn(0), 7);
        Checks.due("5 and 6", x.turn(2), 11);
        Checks.due("between them, both now DOWN and ACROSS", x.turn(1), -1);
        Checks.due("paid so far", x.count(6), 18);
        Checks.due("two things done", x.count(9), 2);
    }

    private static void canNotBeTurned() {
        CouplesPaving x = Checks.of("square 3 3; hole 0 2; stone 0 0 0; stone 0 1 0; stone 2 1 1; lays = 9;");
        int[] before = Checks.state(x);
        for (int c = 1; c <= 9; c++) {
            Checks.due("turn(" + c + ")", x.turn(c), -1);
        }
        for (int far : FAR) {
            Checks.due("turn(" + far + ")", x.turn(far), -1);
        }
        Checks.sameState("what could not be turned", x, before);
        Checks.due("0 can be", x.turn(0), 2);
        Checks.due("an empty SQUARE", Checks.of("square 2 2;").turn(0), -1);
        Checks.due("HOLES alone", Checks.of("square 2 2; hole 0 0; hole 1 0; hole 0 1; hole 1 1;").turn(0), -1);
    }

    private static void aBlockIsTurned() {
        CouplesPaving x = Checks.of("square 6 6;");
        x.pave(0);
        Checks.due("turn(0)", x.turn(0), 2);
        Checks.due("turn(28)", x.turn(28), 2);
        Checks.due("two blocks", x.count(4), 14);
        Checks.due("all lie", x.count(3), 18);
    }

    // ---- paved

    private static void allLiftedThenLaid() {
        CouplesPaving x = Checks.of("square 3 2; stone 1 0 1; stone 2 0 1; lays = 8; asks = 5; loosens = 7;");
        x.turn(1);
        x.seasons(2);
        int loosened = x.count(12);
        int paid = x.count(6);
        Checks.due("pave", x.pave(1), true);
        // The second of three: DOWN, ACROSS, ACROSS below.
        Checks.due("mates", Checks.mates(x), new int[] {3, 2, 1, 0, 5, 4});
        int[] couples = {0, 1, 1, 0, 2, 2};
        for (int c = 0; c < 6; c++) {
            Checks.due("cell by cell: the COUPLE on " + c, x.cell(c, 2), couples[c]);
        }
        for (int i = 0; i < 3; i++) {
            Checks.due("each is new", x.stone(i, 2) + x.stone(i, 3), 0);
        }
        Checks.due("nothing is paid", x.count(6), paid);
        Checks.due("lifted, not loosened", x.count(12), loosened);
        Checks.due("the season stays", x.count(5), 2);
        Checks.due("one thing done", x.count(9), 3);
        CouplesPaving holes = Checks.of("square 3 3; hole 1 1; stone 2 1 1;");
        holes.pave(0);
        Checks.due("around a HOLE", Checks.mates(holes), new int[] {1, 0, 5, 6, -2, 2, 3, 8, 7});
        int[] around = {0, 0, 1, 2, -2, 1, 2, 3, 3};
        for (int c = 0; c < 9; c++) {
            Checks.due("around a HOLE: the COUPLE on " + c, holes.cell(c, 2), around[c]);
        }
    }

    private static void pavedByNumber() {
        int[][] mates = {{1, 0, 3, 2, 5, 4, 7, 6}, {1, 0, 6, 7, 5, 4, 2, 3}, {4, 2, 1, 7, 0, 6, 5, 3},
            {4, 5, 3, 2, 0, 1, 7, 6}, {4, 5, 6, 7, 0, 1, 2, 3}};
        CouplesPaving x = Checks.of("square 4 2;");
        for (int i = 0; i < 5; i++) {
            Checks.due("pave(" + i + ")", x.pave(i), true);
            Checks.due("pave(" + i + ")", Checks.mates(x), mates[i]);
        }
        Checks.due("the same again is a thing done", x.pave(4), true);
        Checks.due("things done", x.count(9), 6);
        CouplesPaving holes = Checks.of("square 2 2; hole 0 0; hole 1 0; hole 0 1; hole 1 1;");
        Checks.due("of HOLES alone", holes.pave(0), true);
        Checks.due("nothing lies", holes.count(3) * 10 + holes.count(9), 1);
    }

    private static void noSuchPaving() {
        String[] texts = {"", "square 2 2; stone 0 0 0;", "square 6 6;", "square 3 3; stone 0 0 0; lays = 3;",
            "square 5 5; hole 0 1;", "square 3 3; hole 1 1; stone 0 0 1;", "square 2 2; hole 0 0; hole 1 0; hole 0 1; hole 1 1;"};
        int[] all = {36, 2, 6728, 0, 0, 2, 1};
        for (int i = 0; i < texts.length; i++) {
            CouplesPaving x = Checks.of(texts[i]);
            x.seasons(1);
            int[] before = Checks.state(x);
            Checks.due(texts[i] + " pave(" + all[i] + ")", x.pave(all[i]), false);
            Checks.due(texts[i] + " one more", x.pave(all[i] + 1), false);
            Checks.due(texts[i] + " below 0", x.pave(-1), false);
            Checks.due(texts[i] + " the least int", x.pave(Integer.MIN_VALUE), false);
            Checks.due(texts[i] + " the most", x.pave(Integer.MAX_VALUE), false);
            Checks.sameState("no such PAVING", x, before);
            Checks.due(texts[i] + " the last", x.pave(all[i] - 1), all[i] > 0);
        }
    }
}
