/** Promises 6 to 11, 13, 25, 26 and 34 to 36: stones laid, lifted, turned, paved, undone, held, counted; the laws. */
public final class StonesTest {
    private StonesTest() {
    }

    public static void main(String[] args) {
        cellTells();
        stoneTells();
        layLays();
        liftLifts();
        turnTurns();
        turnsAndCheapest();
        paveLays();
        lawsReckon();
        lawsSee();
        undoUndoes();
        slotsHold();
        countCounts();
        Checks.finish("StonesTest");
    }

    private static void cellTells() {
        CouplesPaving x = Checks.of("square 3 2; hole 1 0; stone 0 0 1; stone 1 1 0;");
        int[] what0 = {1, 2, 0, 1, 1, 1};
        int[] what1 = {3, -2, -2, 0, 5, 4};
        int[] what2 = {0, -2, -2, 0, 1, 1};
        int[] what3 = {1, 0, 1, 0, 1, 0};
        for (int c = 0; c < 6; c++) {
            Checks.due("cell(" + c + ", 0)", x.cell(c, 0), what0[c]);
            Checks.due("cell(" + c + ", 1)", x.cell(c, 1), what1[c]);
            Checks.due("cell(" + c + ", 2)", x.cell(c, 2), what2[c]);
            Checks.due("cell(" + c + ", 3)", x.cell(c, 3), what3[c]);
        }
        int[][] wrong = {{-1, 0}, {6, 0}, {0, -1}, {0, 4}, {Integer.MAX_VALUE, 1}, {Integer.MIN_VALUE, 2}};
        for (int[] w : wrong) {
            Checks.due("cell(" + w[0] + ", " + w[1] + ")", x.cell(w[0], w[1]), -1);
        }
    }

    private static void stoneTells() {
        CouplesPaving x = Checks.of("asks = 3 + which; loosens = 150; stone 2 1 0; stone 0 0 1;");
        int[] first = {6, 1, 0, 0, 3, 100};
        int[] second = {0, 0, 0, 0, 4, 100};
        for (int what = 0; what < 6; what++) {
            Checks.due("stone(0, " + what + ")", x.stone(0, what), first[what]);
            Checks.due("stone(1, " + what + ")", x.stone(1, what), second[what]);
            Checks.due("stone(2, " + what + ")", x.stone(2, what), -2);
            Checks.due("stone(17, " + what + ")", x.stone(17, what), -2);
            Checks.due("stone(18, " + what + ")", x.stone(18, what), -1);
            Checks.due("stone(-1, " + what + ")", x.stone(-1, what), -1);
        }
        Checks.due("stone(0, 6)", x.stone(0, 6), -1);
        Checks.due("stone(0, -1)", x.stone(0, -1), -1);
        Checks.due("stone(2, 6) could be both", x.stone(2, 6), -1);
    }

    private static void layLays() {
        CouplesPaving x = Checks.of("square 3 3; hole 1 1; lays = 10 * stones + which;");
        Checks.due("down into a hole", x.lay(1, 1), -1);
        Checks.due("from a hole", x.lay(4, 0), -1);
        Checks.due("beyond the right", x.lay(2, 0), -1);
        Checks.due("beyond the bottom", x.lay(6, 1), -1);
        Checks.due("no such way", x.lay(0, 2), -1);
        Checks.due("no such way", x.lay(0, -1), -1);
        Checks.due("no such cell", x.lay(9, 0), -1);
        Checks.due("no such cell", x.lay(-1, 0), -1);
        Checks.due("no such cell", x.lay(Integer.MAX_VALUE, 1), -1);
        Checks.due("nothing was done", x.count(9) + x.count(6) + x.count(3), 0);
        Checks.due("lay(0, 0)", x.lay(0, 0), 0);
        Checks.due("paid", x.count(6), 10);
        Checks.due("on a stone", x.lay(0, 1), -1);
        Checks.due("onto a stone's second cell", x.lay(1, 0), -1);
        Checks.due("lay(2, 1)", x.lay(2, 1), 1);
        Checks.due("paid", x.count(6), 10 + 21);
        Checks.due("lift(1)", x.lift(1), true);
        Checks.due("the least couple again", x.lay(3, 1), 0);
        Checks.due("paid", x.count(6), 10 + 21 + 20);
        CouplesPaving y = Checks.of("lays = 500; stone 0 0 0;");
        Checks.due("told stones cost nothing", y.count(6), 0);
        y.lay(2, 0);
        Checks.due("LAYS is held to 99", y.count(6), 99);
        CouplesPaving z = Checks.of("lays = 0 - 5;");
        z.lay(2, 0);
        Checks.due("LAYS is held to 0", z.count(6), 0);
    }

    private static void liftLifts() {
        CouplesPaving x = Checks.of("square 2 3; hole 0 2; stone 0 0 1;");
        Checks.due("lift of an empty cell", x.lift(1), false);
        Checks.due("lift of a hole", x.lift(4), false);
        Checks.due("lift of no cell", x.lift(6), false);
        Checks.due("lift of no cell", x.lift(-1), false);
        Checks.due("nothing was done", x.count(9), 0);
        Checks.due("lift by the second cell", x.lift(2), true);
        Checks.due("it is gone", x.count(3), 0);
        Checks.due("it was not loosened", x.count(12), 0);
        Checks.due("its cell is empty", x.cell(0, 0), 0);
        Checks.due("its other cell is empty", x.cell(2, 2), -2);
        Checks.due("a thing was done", x.count(9), 1);
    }

    private static void turnTurns() {
        CouplesPaving x = Checks.of("square 3 2; stone 1 0 0; stone 1 1 0; stone 0 0 1; asks = 10 + which * 5 + turned;");
        Checks.due("a stone beside it", x.turn(0), -1);
        Checks.due("no block at the right", x.turn(2), -1);
        Checks.due("no block at the bottom", x.turn(4), -1);
        Checks.due("no such cell", x.turn(-1), -1);
        Checks.due("no such cell", x.turn(6), -1);
        Checks.due("turn(1)", x.turn(1), 25);
        Checks.due("paid", x.count(6), 25);
        Checks.due("the upper one lies left", x.cell(1, 2) * 10 + x.cell(4, 2), 0);
        Checks.due("the lower one lies right", x.cell(2, 2) * 10 + x.cell(5, 2), 11);
        Checks.due("turned", x.stone(0, 2) + x.stone(1, 2), 2);
        Checks.due("turn(0)", x.turn(0), 20 + 11);
        Checks.due("the left one lies above", x.stone(2, 0) * 10 + x.stone(2, 1), 1);
        Checks.due("the right one lies below", x.stone(0, 0) * 10 + x.stone(0, 1), 31);
        Checks.due("turned of all", x.count(16), 4);
        Checks.due("paid in all", x.count(6), 56);
        Checks.due("two stones apart by one", Checks.of("stone 0 0 1; stone 1 1 1;").turn(0), -1);
        Checks.due("one stone alone", Checks.of("stone 0 0 0;").turn(0), -1);
        Checks.due("two stones side by side", Checks.of("stone 0 0 0; stone 2 0 0; stone 1 1 0;").turn(1), -1);
    }

    private static void turnsAndCheapest() {
        CouplesPaving x = Checks.of("asks = if top < 2 then 5 else 3 - across;");
        Checks.due("turns of none", x.turns(-1), 0);
        Checks.due("the first of none", x.turns(0), -1);
        Checks.due("cheapest of none", x.cheapest(0), -2);
        Checks.due("cheapest of none, how much", x.cheapest(1), -2);
        Checks.due("cheapest of none, others", x.cheapest(2), -1);
        x.pave(0);
        int[] due = {0, 2, 4, 6, 8, 10};
        Checks.due("turns", x.turns(-1), due.length);
        for (int i = 0; i < due.length; i++) {
            Checks.due("turns(" + i + ")", x.turns(i), due[i]);
        }
        Checks.due("not so many", x.turns(6), -1);
        Checks.due("below NONE", x.turns(-2), -1);
        Checks.due("the least int", x.turns(Integer.MIN_VALUE), -1);
        Checks.due("cheapest, the first of alike ones", x.cheapest(0), 8);
        Checks.due("cheapest, how much", x.cheapest(1), 4);
        Checks.due("cheapest, others", x.cheapest(-1), -1);
        x.turn(8);
        Checks.due("the next cheapest", x.cheapest(0), 10);
        x.turn(10);
        Checks.due("now both lie down", x.cheapest(0) * 100 + x.cheapest(1), 806);
        Checks.due("a block between two turned ones", x.turns(3), 9);
    }

    private static void paveLays() {
        CouplesPaving x = Checks.of("square 3 3; hole 1 1; stone 0 0 0; lays = 9; asks = 2;");
        x.seasons(2);
        Checks.due("two pavings around the hole", x.all(), 2);
        Checks.due("no such paving", x.pave(2), false);
        Checks.due("no such paving", x.pave(-1), false);
        Checks.due("no such paving", x.pave(Integer.MAX_VALUE), false);
        Checks.due("nothing was done", x.count(9), 1);
        Checks.due("pave(1)", x.pave(1), true);
        int[] couples = {0, 1, 1, 0, -2, 2, 3, 3, 2};
        for (int c = 0; c < 9; c++) {
            Checks.due("couple on " + c, x.cell(c, 2), couples[c]);
        }
        Checks.due("nothing is paid", x.count(6), 0);
        Checks.due("they are new", x.stone(0, 3), 0);
        Checks.due("the season stays", x.count(5), 2);
        Checks.due("nothing loosened", x.count(12), 0);
        CouplesPaving all = Checks.of("square 2 2; hole 0 0; hole 1 0; hole 0 1; hole 1 1;");
        Checks.due("of holes alone there is one paving", all.all(), 1);
        Checks.due("it lies", all.count(7), 1);
        Checks.due("its number", all.rank(), 0);
        Checks.due("it can be laid", all.pave(0), true);
        Checks.due("that is a thing done", all.count(9), 1);
        Checks.due("an odd square", Checks.of("square 3 3;").pave(0), false);
    }

    private static void asks(String law, int due) {
        CouplesPaving x = Checks.of("square 5 5; hole 4 4; hole 3 4; stone 4 0 1; stone 1 2 0; asks = " + law + ";");
        Checks.due("ASKS = " + law, x.stone(1, 4), due);
    }

    private static void lawsReckon() {
        asks("1 + 2 * 3", 7);
        asks("(1 + 2) * 3", 9);
        asks("9 - 3 - 2", 4);
        asks("48 / 4 / 3", 4);
        asks("7 / 2 * 2", 6);
        asks("50 - (0 - 7) / 2 * 10", 80);
        asks("100", 99);
        asks("0 - 1", 0);
        asks("9999 * 9999 * 21", 99);
        // 2199560022 is beyond 31 bits: -2095407274.
        asks("9999 * 9999 * 22", 0);
        asks("50 + 9999 * 9999 * 22 / 9999 / 9999", 30);
        asks("5 / 0", 0);
        asks("50 + 5 / 0", 0);
        asks("5 / (3 - 3) * 0 + 9", 0);
        asks("if 1 < 2 then 8 else 5 / 0", 8);
        asks("if 2 < 2 then 5 / 0 else 6", 6);
        asks("if 2 / 0 < 2 then 5 else 6", 0);
        asks("if 2 < 1 then 5 else if 1 < 0 - 1 then 6 else if 0 - 1 < 1 then 7 else 8", 7);
        asks("if 1 < 2 then 5 else if 1 / 0 < 1 then 6 else 8", 5);
        asks("if 3 < 2 then 5 else if 1 / 0 < 1 then 6 else 8", 0);
        asks("if 3 < 2 then 1 else if 3 < 2 then 2 else if 3 < 2 then 3 else if 3 < 2 then 4 else 55", 55);
    }

    private static void lawsSee() {
        asks("across", 1);
        asks("left", 1);
        asks("top", 2);
        asks("which", 1);
        asks("stones", 2);
        asks("holes", 2);
        asks("turned + age + season", 0);
        CouplesPaving x = Checks.of("stone 2 1 1; stone 3 1 1; asks = across + 2 * left + 10 * top; "
            + "loosens = if season < 9 then 0 else season; lays = turned * 50 + age * 30 + season;");
        Checks.due("left and top of the first cell", x.stone(0, 4), 14);
        x.turn(6);
        Checks.due("seen as it lies now", x.stone(1, 4), 25);
        x.seasons(9);
        Checks.due("LOOSENS by the season", x.stone(0, 5), 9);
        x.lay(0, 0);
        Checks.due("LAYS sees a new stone in this season", x.count(6), 14 + 16 + 9);
        CouplesPaving y = Checks.of("stone 0 0 0; stone 0 1 0; asks = 1 + 4 * turned + 20 * age;");
        y.turn(0);
        y.seasons(2);
        y.turn(0);
        Checks.due("turned and age", y.stone(0, 4), 1 + 8 + 40);
        Checks.due("paid by how it was ahead", y.count(6), 2 + 2 * 45);
        y.lift(0);
        y.lay(0, 0);
        Checks.due("laid anew", y.stone(0, 4), 1);
    }

    private static void undoUndoes() {
        CouplesPaving x = Checks.of("square 6 2; lays = 2; loosens = if 2 < age then 100 else 0;");
        Checks.due("nothing to undo", x.undo(), false);
        x.lay(0, 0);
        x.lay(6, 0);
        x.turn(0);
        x.seasons(3);
        x.lift(1);
        x.seasons(0);
        Checks.due("things done", x.count(9), 5);
        x.pave(0);
        Checks.due("undo of pave", x.undo(), true);
        Checks.due("one lies", x.count(13), 1);
        Checks.due("undo of lift", x.undo(), true);
        Checks.due("its couple and age are back", x.stone(1, 3), 3);
        Checks.due("its turns are back", x.stone(1, 2), 1);
        x.seasons(1);
        Checks.due("both loosened", x.count(12), 2);
        Checks.due("undo of seasons", x.undo(), true);
        Checks.due("none loosened", x.count(12), 0);
        Checks.due("both lie", x.count(3), 2);
        Checks.due("undo of 3 seasons at once", x.undo(), true);
        Checks.due("season 0", x.count(5), 0);
        Checks.due("undo of turn", x.undo(), true);
        Checks.due("not paid", x.count(6), 4);
        Checks.due("lies across again", x.stone(0, 1) + x.stone(0, 2), 1);
        Checks.due("undo of lay", x.undo(), true);
        Checks.due("not paid", x.count(6), 2);
        Checks.due("undo of lay", x.undo(), true);
        Checks.due("no more", x.undo(), false);
        for (int i = 1; i <= 45; i++) {
            x.seasons(1);
            Checks.due("40 at most", x.count(9), Math.min(i, 40));
        }
        for (int i = 0; i < 40; i++) {
            Checks.due("undo " + i, x.undo(), true);
        }
        Checks.due("the 41st is lost", x.undo(), false);
        Checks.due("season 5", x.count(5), 5);
    }

    private static void slotsHold() {
        CouplesPaving x = Checks.of("square 4 2; lays = 3; loosens = if season < 5 then 0 else 100;");
        Checks.due("no such slot", x.hold(3), false);
        Checks.due("no such slot", x.hold(-1), false);
        Checks.due("nothing held", x.restore(0), false);
        x.lay(0, 0);
        x.lay(4, 0);
        x.turn(0);
        x.seasons(2);
        x.tell(3, true);
        Checks.due("hold(2)", x.hold(2), true);
        Checks.due("undo stays", x.count(9), 4);
        x.seasons(5);
        x.lay(3, 1);
        x.tell(2, false);
        x.feed(0, 0, 0, 0, 0);
        Checks.due("loosened", x.count(12), 2);
        Checks.due("no such slot", x.restore(3), false);
        Checks.due("no such slot", x.restore(Integer.MIN_VALUE), false);
        Checks.due("nothing held there", x.restore(1), false);
        Checks.due("nothing happened", x.count(9), 6);
        Checks.due("restore(2)", x.restore(2), true);
        Checks.due("nothing can be undone", x.undo(), false);
        Checks.due("the season", x.count(5), 2);
        Checks.due("paid", x.count(6), 8);
        Checks.due("loosened", x.count(12), 0);
        Checks.due("turned", x.stone(1, 2), 1);
        Checks.due("age", x.stone(1, 3), 2);
        Checks.due("told stays", x.count(10), 2);
        Checks.due("the tape stays", x.count(8), 20);
        x.lift(0);
        Checks.due("it stays there", x.restore(2), true);
        Checks.due("both lie", x.count(3), 2);
        x.lift(0);
        x.hold(2);
        x.hold(0);
        x.lift(1);
        x.restore(2);
        Checks.due("held anew", x.count(3), 1);
        Checks.due("slots", x.count(11), 2);
        x.lift(1);
        Checks.due("going on does not change what is held", x.restore(0), true);
        Checks.due("one lies", x.count(3), 1);
    }

    private static void countCounts() {
        CouplesPaving x = Checks.of("square 5 3; hole 0 0; hole 4 2; stone 1 0 0; stone 1 1 0; stone 3 1 1; asks = 2 + which; lays = 6;");
        x.turn(1);
        x.seasons(4);
        x.lay(3, 0);
        x.lift(8);
        x.tell(1, true);
        x.hold(1);
        x.feed(1, 2, 3, 4, 5);
        int[] due = {5, 3, 2, 3, 1, 4, 11, 0, 20, 4, 1, 1, 0, 11, 7, 10, 2};
        for (int what = 0; what < due.length; what++) {
            Checks.due("count(" + what + ")", x.count(what), due[what]);
        }
        Checks.due("count(17)", x.count(17), -1);
        Checks.due("count(-1)", x.count(-1), -1);
        Checks.due("count of the least int", x.count(Integer.MIN_VALUE), -1);
        CouplesPaving y = Checks.of("square 2 2; stone 0 0 0; stone 0 1 0;");
        Checks.due("a paving lies", y.count(7), 1);
    }
}
