/** Sentences on what is held and gone on from, and on what is counted: promises 34 to 36. */
final class HeldSentences {
    private static final int[] NO_SLOT = {-1, -2, 3, 4, 40, Integer.MAX_VALUE, Integer.MIN_VALUE};
    private static final String BUSY = "square 3 3; hole 2 2; stone 0 0 0; stone 0 1 0; lays = 6; asks = 2 + which;"
        + " loosens = if which < 2 then 0 else age * 50;";

    private HeldSentences() {
    }

    static void tell(Sentences s) {
        s.promise(34);
        s.of("All that goes on (not what is TOLD, nor the tape) is held in a SLOT (0 .. 2): true;", HeldSentences::allIsHeld);
        s.of("false: no such one.", HeldSentences::noSlotToHoldIn);
        s.promise(35);
        s.of("It goes on from what a SLOT holds (that stays there; nothing can be undone then): true;", HeldSentences::itGoesOn);
        s.of("false, and nothing happens: no such one, nothing is held.", HeldSentences::nothingToGoOnFrom);
        tellCounts(s);
    }

    private static void tellCounts(Sentences s) {
        s.promise(36);
        s.of("0 WIDE, 1 HIGH, 2 HOLES,", HeldSentences::countOfTheSquare);
        s.of("3 STONES that lie, 4 of these ACROSS,", HeldSentences::countOfStones);
        s.of("5 the season,", HeldSentences::countOfSeasons);
        s.of("6 what was paid so far,", HeldSentences::countOfWhatWasPaid);
        s.of("7: 1 a PAVING lies, else 0,", HeldSentences::countOfAPaving);
        s.of("8 bytes on the tape,", HeldSentences::countOfBytes);
        s.of("9 things that can be undone,", HeldSentences::countOfThingsDone);
        s.of("10 TOLD ones,", HeldSentences::countOfTold);
        s.of("11 SLOTS that hold something,", HeldSentences::countOfSlots);
        s.of("12 how many loosened so far,", HeldSentences::countOfLoosened);
        s.of("13 COUPLES whose STONES lie (bits),", HeldSentences::countOfCouples);
        s.of("14 cells without HOLES, STONES,", HeldSentences::countOfFreeCells);
        s.of("15 ASKS of all STONES, added,", HeldSentences::countOfAsks);
        s.of("16 how often all that lie were TURNED, added.", HeldSentences::countOfTurned);
        s.of("NONE for others.", HeldSentences::noSuchCount);
    }

    // ---- held

    private static CouplesPaving busy() {
        CouplesPaving x = Checks.of(BUSY);
        x.turn(0);
        x.lay(6, 0);
        x.seasons(3);
        x.lay(2, 1);
        x.seasons(1);
        return x;
    }

    private static void allIsHeld() {
        for (int slot = 0; slot <= 2; slot++) {
            CouplesPaving x = busy();
            int[] before = Checks.state(x);
            Checks.due("hold(" + slot + ")", x.hold(slot), true);
            before[11] = 1;
            Checks.sameState("hold", x, before);
            Checks.due("it is no thing done", x.count(9), 5);
            x.turn(0);
            x.lift(6);
            x.lay(5, 1);
            x.seasons(60);
            x.tell(0, true);
            x.feed(0, 0, 0, 0, 0);
            Checks.due("restore(" + slot + ")", x.restore(slot), true);
            before[8] = 20;
            before[9] = 0;
            before[10] = 1;
            Checks.sameState("restore: all but what is TOLD, and the tape", x, before);
            Checks.due("what is TOLD is KNOWN still", x.fit(1, 0) >= 0, true);
        }
        CouplesPaving again = Checks.of("stone 0 0 0;");
        again.hold(1);
        again.lift(0);
        again.hold(1);
        again.lay(2, 0);
        again.restore(1);
        Checks.due("the latest is held", again.count(3), 0);
        Checks.due("in one SLOT", again.count(11), 1);
    }

    private static void noSlotToHoldIn() {
        CouplesPaving x = busy();
        int[] before = Checks.state(x);
        for (int slot : NO_SLOT) {
            Checks.due("hold(" + slot + ")", x.hold(slot), false);
        }
        Checks.sameState("no such SLOT", x, before);
        for (int slot = 0; slot <= 2; slot++) {
            Checks.due("nothing is held", x.restore(slot), false);
        }
    }

    private static void itGoesOn() {
        CouplesPaving x = Checks.of("square 4 2; lays = 3; loosens = if season < 5 then 0 else 100;");
        int[] due = {0, 1, 2};
        for (int slot = 0; slot <= 2; slot++) {
            Checks.due("hold", x.hold(slot), true);
            x.lay(2 * slot, 1);
            x.seasons(1);
        }
        for (int round = 0; round < 3; round++) {
            for (int slot = 2; slot >= 0; slot--) {
                Checks.due("restore", x.restore(slot), true);
                Checks.due("its STONES", x.count(3), due[slot]);
                Checks.due("its season", x.count(5), due[slot]);
                Checks.due("what was paid then", x.count(6), 3 * due[slot]);
                Checks.due("nothing can be undone", x.count(9), 0);
                Checks.due("nothing can be undone", x.undo(), false);
                Checks.due("all three hold", x.count(11), 3);
                x.lay(3, 1);
                Checks.due("what is done then can be", x.count(9), 1);
                x.seasons(60);
                x.pave(2);
            }
        }
        x.restore(2);
        x.lay(3, 1);
        x.undo();
        Checks.due("undone to what was held", x.count(3), 2);
        x.seasons(20);
        Checks.due("loosened later", x.count(12), 2);
        x.restore(2);
        Checks.due("not then", x.count(12) * 10 + x.count(13), 3);
    }

    private static void nothingToGoOnFrom() {
        CouplesPaving x = busy();
        int[] before = Checks.state(x);
        for (int slot : NO_SLOT) {
            Checks.due("restore(" + slot + ")", x.restore(slot), false);
        }
        for (int slot = 0; slot <= 2; slot++) {
            Checks.due("nothing is held: restore(" + slot + ")", x.restore(slot), false);
        }
        Checks.sameState("nothing to go on from", x, before);
        Checks.due("it can be undone", x.undo(), true);
        x.hold(1);
        x.lift(0);
        Checks.due("nothing is held in 0", x.restore(0), false);
        Checks.due("nothing is held in 2", x.restore(2), false);
        Checks.due("nor beyond", x.restore(3), false);
        Checks.due("it was lifted", x.count(9), 5);
        Checks.due("held in 1", x.restore(1), true);
        Checks.read(x, BUSY);
        Checks.due("after a new text", x.restore(1), false);
    }

    // ---- counted

    private static void countOfTheSquare() {
        CouplesPaving x = new CouplesPaving();
        Checks.due("of a new object", x.count(0) * 100 + x.count(1) * 10 + x.count(2), 440);
        for (String sides : new String[] {"2 6", "6 2", "3 5", "6 6", "2 2"}) {
            CouplesPaving y = Checks.of("square " + sides + "; hole 1 1; hole 0 0;");
            Checks.due("WIDE of " + sides, y.count(0), sides.charAt(0) - '0');
            Checks.due("HIGH of " + sides, y.count(1), sides.charAt(2) - '0');
            Checks.due("HOLES of " + sides, y.count(2), 2);
        }
    }

    private static void countOfStones() {
        CouplesPaving x = Checks.of("square 3 2; stone 0 0 0; stone 2 0 1;");
        Checks.due("told", x.count(3) * 10 + x.count(4), 21);
        x.lay(3, 0);
        Checks.due("laid", x.count(3) * 10 + x.count(4), 32);
        x.turn(0);
        Checks.due("turned", x.count(3) * 10 + x.count(4), 30);
        x.lift(0);
        x.lift(1);
        x.lift(2);
        Checks.due("lifted", x.count(3) * 10 + x.count(4), 0);
        CouplesPaving full = Checks.of("square 6 6;");
        full.pave(0);
        Checks.due("18 of 18", full.count(3) * 100 + full.count(4), 1818);
        full.pave(6727);
        Checks.due("none of 18", full.count(3) * 100 + full.count(4), 1800);
    }

    private static void countOfSeasons() {
        CouplesPaving x = new CouplesPaving();
        Checks.due("at first", x.count(5), 0);
        x.seasons(60);
        x.seasons(7);
        Checks.due("67", x.count(5), 67);
        x.undo();
        Checks.due("undone", x.count(5), 60);
        Checks.read(x, "seed 3;");
        Checks.due("of a new text", x.count(5), 0);
    }

    private static void countOfWhatWasPaid() {
        CouplesPaving x = Checks.of("square 2 2; stone 0 0 0; asks = 20; lays = 7;");
        Checks.due("told at first", x.count(6), 0);
        x.lay(2, 0);
        Checks.due("LAYS", x.count(6), 7);
        x.turn(0);
        Checks.due("ASKS of both", x.count(6), 47);
        x.lift(0);
        x.lift(1);
        x.pave(0);
        x.seasons(1);
        Checks.due("all else costs nothing", x.count(6), 47);
        CouplesPaving long1 = Checks.of("square 2 2; stone 0 0 0; stone 0 1 0; asks = 99;");
        for (int i = 0; i < 400; i++) {
            long1.turn(0);
        }
        Checks.due("400 turns", long1.count(6), 400 * 198);
        long1.undo();
        Checks.due("one undone", long1.count(6), 399 * 198);
    }

    private static void countOfAPaving() {
        CouplesPaving x = Checks.of("square 2 2; hole 0 0; hole 1 0;");
        Checks.due("two cells are left", x.count(7), 0);
        x.lay(2, 0);
        Checks.due("none is left", x.count(7), 1);
        x.lift(3);
        Checks.due("two again", x.count(7), 0);
        Checks.due("one cell is left", Checks.of("square 2 2; hole 0 0; stone 0 1 0;").count(7), 0);
        Checks.due("HOLES alone", Checks.of("square 2 2; hole 0 0; hole 1 0; hole 0 1; hole 1 1;").count(7), 1);
        Checks.due("told at first", Checks.of("square 2 2; stone 0 0 0; stone 0 1 0;").count(7), 1);
    }

    private static void countOfBytes() {
        CouplesPaving x = new CouplesPaving();
        Checks.due("none", x.count(8), 0);
        for (int i = 0; i < 101; i++) {
            x.feed(0, 0, 0, 0, 0);
        }
        Checks.due("2000 at most", x.count(8), 2000);
        x.back(1999);
        Checks.due("one", x.count(8), 1);
        x.back(2);
        Checks.due("still one", x.count(8), 1);
        x.read();
        Checks.due("read", x.count(8), 0);
    }

    private static void countOfThingsDone() {
        CouplesPaving x = Checks.of("square 2 2;");
        Checks.due("none", x.count(9), 0);
        x.lay(0, 0);
        x.lay(2, 0);
        x.turn(0);
        x.lift(0);
        x.pave(0);
        x.seasons(1);
        Checks.due("six", x.count(9), 6);
        x.lay(0, 0);
        x.turn(2);
        x.lift(-1);
        x.pave(2);
        x.seasons(0);
        x.seasons(-1);
        x.hold(0);
        x.tell(0, true);
        x.forget();
        x.feed(0, 0, 0, 0, 0);
        x.back(20);
        Checks.due("all else is none", x.count(9), 6);
        x.undo();
        Checks.due("five", x.count(9), 5);
        for (int i = 0; i < 60; i++) {
            x.seasons(1);
        }
        Checks.due("40 at most", x.count(9), 40);
        Checks.read(x, "seed 99999;");
        Checks.due("a FAULT", x.count(9), 40);
        x.restore(0);
        Checks.due("restore", x.count(9), 0);
        x.seasons(1);
        Checks.read(x, "seed 9999;");
        Checks.due("a new text", x.count(9), 0);
    }

    private static void countOfTold() {
        CouplesPaving x = new CouplesPaving();
        Checks.due("none", x.count(10), 0);
        for (int i = 1; i <= 22; i++) {
            x.tell(3, true);
            Checks.due("20 at most", x.count(10), Math.min(i, 20));
        }
        x.forget();
        Checks.due("forgotten", x.count(10), 0);
        x.tell(3, true);
        x.tell(16, true);
        x.undo();
        Checks.due("one", x.count(10), 1);
        Checks.read(x, "seed 1;");
        Checks.due("a new text", x.count(10), 0);
    }

    private static void countOfSlots() {
        CouplesPaving x = new CouplesPaving();
        int[] slots = {1, 1, 3, 0, -1, 2, 2};
        int[] due = {1, 1, 1, 2, 2, 3, 3};
        Checks.due("none", x.count(11), 0);
        for (int i = 0; i < slots.length; i++) {
            x.hold(slots[i]);
            Checks.due("after hold(" + slots[i] + ")", x.count(11), due[i]);
        }
        x.restore(1);
        Checks.due("that stays there", x.count(11), 3);
        Checks.read(x, "seed 1;");
        Checks.due("a new text", x.count(11), 0);
    }

    private static void countOfLoosened() {
        CouplesPaving x = Checks.of("square 4 2; loosens = if which < 1 then 0 else 100;");
        Checks.due("none", x.count(12), 0);
        x.pave(0);
        x.seasons(2);
        Checks.due("three of four", x.count(12), 3);
        x.pave(1);
        x.lift(0);
        Checks.due("lifted by hand: not more", x.count(12), 3);
        x.seasons(1);
        Checks.due("three more", x.count(12), 6);
        x.undo();
        Checks.due("undone", x.count(12), 3);
        x.then(-1, 5);
        x.year(5, 5);
        Checks.due("what would be does not count", x.count(12), 3);
        Checks.read(x, "seed 1;");
        Checks.due("a new text", x.count(12), 0);
    }

    private static void countOfCouples() {
        CouplesPaving x = Checks.of("square 6 6;");
        Checks.due("none", x.count(13), 0);
        x.pave(0);
        Checks.due("18 bits", x.count(13), 262143);
        x.lift(0);
        Checks.due("less the lowest", x.count(13), 262142);
        x.lift(35);
        Checks.due("less the highest", x.count(13), 131070);
        x.lift(10);
        Checks.due("less 5", x.count(13), 131070 - 32);
        x.lay(34, 0);
        Checks.due("0 again", x.count(13), 131071 - 32);
    }

    private static void countOfFreeCells() {
        CouplesPaving x = Checks.of("square 5 3; hole 0 0; hole 4 2; stone 1 1 0;");
        Checks.due("15 less 2 less 2", x.count(14), 11);
        x.lay(1, 0);
        Checks.due("9", x.count(14), 9);
        x.lift(6);
        Checks.due("11", x.count(14), 11);
        Checks.due("6 by 6", Checks.of("square 6 6;").count(14), 36);
        Checks.due("HOLES alone", Checks.of("square 2 2; hole 0 0; hole 1 0; hole 0 1; hole 1 1;").count(14), 0);
        CouplesPaving full = Checks.of("square 6 6;");
        full.pave(5);
        Checks.due("a PAVING", full.count(14), 0);
    }

    private static void countOfAsks() {
        CouplesPaving x = Checks.of("square 6 6; asks = 200 - 7 * which;");
        Checks.due("none", x.count(15), 0);
        x.pave(0);
        // 99 for the COUPLES 0 .. 14, then 95, 88, 81.
        Checks.due("18, each held", x.count(15), 15 * 99 + 95 + 88 + 81);
        x.lift(34);
        Checks.due("less the last", x.count(15), 15 * 99 + 95 + 88);
        CouplesPaving y = Checks.of("stone 0 0 0; stone 2 0 0; asks = 1 / which + 6;");
        Checks.due("one is divided by 0", y.count(15), 7);
        CouplesPaving usual = Checks.of("stone 0 0 0; stone 2 0 0;");
        Checks.due("if not told, 1 each", usual.count(15), 2);
    }

    private static void countOfTurned() {
        CouplesPaving x = Checks.of("square 3 2; stone 0 0 0; stone 0 1 0; stone 2 0 1;");
        Checks.due("none", x.count(16), 0);
        x.turn(0);
        Checks.due("two", x.count(16), 2);
        x.turn(1);
        Checks.due("four", x.count(16), 4);
        x.lift(1);
        Checks.due("of those that lie", x.count(16), 2);
        x.lay(1, 0);
        Checks.due("a new one was not", x.count(16), 2);
        x.pave(0);
        Checks.due("all are new", x.count(16), 0);
        x.undo();
        Checks.due("undone", x.count(16), 2);
    }

    private static void noSuchCount() {
        CouplesPaving x = busy();
        for (int what : new int[] {-1, -2, 17, 18, 32, 100, Integer.MAX_VALUE, Integer.MIN_VALUE}) {
            Checks.due("count(" + what + ")", x.count(what), -1);
        }
        for (int what = 0; what <= 16; what++) {
            Checks.due("count(" + what + ")", x.count(what) >= 0, true);
        }
    }
}
