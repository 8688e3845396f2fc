/** Promises 1 to 5: a new object, the tape, and the faults of texts. */
public final class TextTest {
    private TextTest() {
    }

    public static void main(String[] args) {
        aNewObject();
        feedAndBack();
        soundTexts();
        syntaxFaults();
        roomFaults();
        roomOfTokens();
        wrongFaults();
        squareFaults();
        aFaultChangesNothing();
        aTextStartsOver();
        Checks.finish("TextTest");
    }

    private static void aNewObject() {
        CouplesPaving x = new CouplesPaving();
        Checks.due("new: wide", x.count(0), 4);
        Checks.due("new: high", x.count(1), 4);
        for (int what = 2; what <= 16; what++) {
            Checks.due("new: count " + what, x.count(what), what == 14 ? 16 : 0);
        }
        Checks.due("new: place", x.place(), -1);
        Checks.due("new: all", x.all(), 36);
        x.lay(0, 0);
        Checks.due("new: ASKS is 1", x.stone(0, 4), 1);
        Checks.due("new: LOOSENS is 0", x.stone(0, 5), 0);
        Checks.due("new: LAYS is 0", x.count(6), 0);
    }

    private static void feedAndBack() {
        CouplesPaving x = new CouplesPaving();
        Checks.due("back of an empty tape", x.back(1), -1);
        Checks.due("back of nothing", x.back(0), 0);
        for (int i = 1; i <= 100; i++) {
            Checks.due("feed " + i, x.feed(0, 0, 0, 0, 0), 20 * i);
        }
        Checks.due("feed beyond 2000", x.feed(0, 0, 0, 0, 0), -1);
        Checks.due("the tape stays", x.count(8), 2000);
        Checks.due("back below 0", x.back(-1), -1);
        Checks.due("back by the least int", x.back(Integer.MIN_VALUE), -1);
        Checks.due("back of too many", x.back(2001), -1);
        Checks.due("back of 19", x.back(19), 1981);
        Checks.due("feed with 1981", x.feed(0, 0, 0, 0, 0), -1);
        Checks.due("back of 1", x.back(1), 1980);
        Checks.due("feed with 1980", x.feed(0, 0, 0, 0, 0), 2000);
        Checks.due("back of all", x.back(2000), 0);
        // "seed", "1234", ";hol", "e 0 ", "0;  ": the highest byte of the first number is the first.
        Checks.due("feed in order", x.feed(0x73656564, 0x31323334, 0x3b686f6c, 0x65203020, 0x303b2020), 20);
        Checks.due("read in order", x.read(), 0);
        Checks.due("the hole was read", x.cell(0, 0), 2);
        Checks.due("the tape is empty", x.count(8), 0);
    }

    private static void sound(String text) {
        CouplesPaving x = new CouplesPaving();
        Checks.due("read of " + text, Checks.read(x, text), 0);
        Checks.due("place of " + text, x.place(), -1);
    }

    private static void faulty(String text, int fault, int place) {
        CouplesPaving x = new CouplesPaving();
        Checks.due("read of " + text, Checks.read(x, text), fault);
        Checks.due("place of " + text, x.place(), place);
    }

    private static void soundTexts() {
        sound("");
        sound(" \t\r\n ");
        sound("square4 4;");
        sound("square 0003 0002;seed 0000;seed 9999;");
        sound("asks=if which<1then 2else if 2*3<age/(1+left)then(top)else 9-turned;lays=holes*stones-season+across;");
        sound("loosens=((((((1))))))+((((((2))))));");
        sound("square 2 2; stone 4 5 0; square 6 6; stone 0 0 1; hole 5 0;");
        CouplesPaving x = Checks.of("square 2 2; square 3 5; seed 4; asks = 3; asks = 7; stone 0 0 1;");
        Checks.due("the last square", x.count(0) * 10 + x.count(1), 35);
        Checks.due("the last law", x.stone(0, 4), 7);
    }

    private static void syntaxFaults() {
        faulty("abcdefgh", 1, 0);
        faulty("squares 4 4;", 1, 0);
        faulty("  abcdefghi", 1, 2);
        faulty("squarehole 1 1;", 1, 0);
        faulty("square 12345 4;", 1, 7);
        faulty("square 4 4", 1, 10);
        faulty("square 4 4  ", 1, 12);
        faulty("square 4 4;;", 1, 11);
        faulty("square 44;", 1, 9);
        faulty("Square 4 4;", 1, 0);
        faulty("xquare 4 4;", 1, 0);
        faulty("squarx 4 4;", 1, 0);
        faulty("asksz = 1;", 1, 0);
        faulty("asks{ = 1;", 1, 4);
        faulty("asks` = 1;", 1, 4);
        faulty("seed 1: ;", 1, 6);
        faulty("asks = 1/ /2;", 1, 10);
        faulty("seed -1;", 1, 5);
        faulty("seed 1; \u00e9", 1, 8);
        faulty("seed 1;\u0000", 1, 7);
        faulty("seed 1;\f", 1, 7);
        faulty("asks = ;", 1, 7);
        faulty("asks 1;", 1, 5);
        faulty("asks = 1 2;", 1, 9);
        faulty("asks = 1 < 2;", 1, 9);
        faulty("asks = (1 < 2);", 1, 10);
        faulty("asks = if 1 then 2 else 3;", 1, 12);
        faulty("asks = if 1 < 2 then 2;", 1, 22);
        faulty("asks = if 1 < 2 then if 1 < 2 then 1 else 2 else 3;", 1, 21);
        faulty("asks = 1 + if 1 < 2 then 1 else 2;", 1, 11);
        faulty("asks = 1 + ;", 1, 11);
        faulty("asks = (1;", 1, 9);
        faulty("asks = 1);", 1, 8);
        faulty("asks = hole;", 1, 7);
        faulty("hole 0;", 1, 6);
        faulty("stone 0 0;", 1, 9);
    }

    private static String times(String part, int n) {
        return part.repeat(n);
    }

    private static void roomFaults() {
        StringBuilder holes = new StringBuilder("square 6 6;");
        for (int i = 0; i < 12; i++) {
            holes.append("hole ").append(i % 6).append(' ').append(i / 6).append(';');
        }
        sound(holes.toString());
        faulty(holes + " hole 0 5;", 2, holes.length() + 1);
        faulty(holes + "hole x", 2, holes.length());
        StringBuilder stones = new StringBuilder("square 6 6;");
        for (int i = 0; i < 18; i++) {
            stones.append("stone ").append(i % 3 * 2).append(' ').append(i / 3).append(" 0;");
        }
        sound(stones.toString());
        faulty(stones + "stone 9 9 9;", 2, stones.length());
        String fourIfs = "asks = " + times("if 1<2 then 3 else ", 4);
        sound(fourIfs + "5;");
        sound(fourIfs + "5; lays " + fourIfs.substring(5) + "5;");
        faulty(fourIfs + "if 1<2 then 3 else 5;", 2, fourIfs.length());
        faulty(fourIfs + "if ?", 2, fourIfs.length());
        faulty("lays=" + times("(", 7) + "1" + times(")", 7) + ";", 2, 11);
        faulty("lays=" + times("(", 7), 2, 11);
        faulty("lays=(1)+" + times("(", 7), 2, 15);
        sound("lays=(1)+" + times("(", 6) + "1" + times(")", 6) + "*(2);");
    }

    private static void roomOfTokens() {
        // 132 times three tokens, and a law of four more, are 400.
        String seeds = times("seed 1;", 132);
        sound(seeds + "asks=1;");
        faulty(seeds + "asks=1;s", 1, seeds.length() + 7);
        faulty(seeds + "asks=1;seed 1;", 2, seeds.length() + 7);
        faulty(seeds + "asks=1;?", 1, seeds.length() + 7);
        faulty(seeds + "asks=1+2;", 2, seeds.length() + 7);
        faulty(seeds + "asks=1+", 1, seeds.length() + 7);
        faulty(seeds + "asks=1+;", 1, seeds.length() + 7);
        faulty("seed 77;" + seeds + "seed 1;", 2, 8 + seeds.length() + 5);
    }

    private static void wrongFaults() {
        faulty("square 1 4;", 5, 7);
        faulty("square 7 4;", 5, 7);
        faulty("square 4 1;", 5, 9);
        faulty("square 4 0007;", 5, 9);
        faulty("square 1 4; square 4 4;", 5, 7);
        faulty("hole 6 0;", 5, 5);
        faulty("hole 0 6;", 5, 7);
        faulty("stone 6 0 0;", 5, 6);
        faulty("stone 0 6 0;", 5, 8);
        faulty("stone 0 0 2;", 5, 10);
        faulty("hole 5 5; stone 0 0 2;", 5, 20);
        faulty("stone 0 0 3; hole 9 9;", 5, 10);
        faulty("square 9 9; seed x;", 1, 17);
        faulty("square 9 9; lays=((((((((1))))))));", 2, 23);
        sound("asks = 9999; lays = 0 / 0; seed 9999;");
    }

    private static void squareFaults() {
        faulty("hole 4 0;", 6, 9);
        faulty("hole 0 4; ", 6, 10);
        faulty("hole 1 1; hole 2 2; hole 1 1;", 6, 29);
        faulty("stone 3 0 0;", 6, 12);
        faulty("stone 0 3 1;", 6, 12);
        faulty("stone 4 0 1;", 6, 12);
        faulty("stone 0 0 0; hole 1 0;", 6, 22);
        faulty("stone 0 0 0; stone 1 0 1;", 6, 25);
        faulty("stone 0 0 0; stone 0 0 0;", 6, 25);
        faulty("hole 3 3; square 3 3;", 6, 21);
        sound("square 2 2; hole 3 3; square 4 4;");
        sound("stone 0 0 0; stone 2 0 1;");
    }

    private static void aFaultChangesNothing() {
        CouplesPaving x = Checks.of("square 3 2; stone 0 0 0; asks = 5; seed 3;");
        x.lay(2, 1);
        x.tell(0, true);
        x.hold(1);
        Checks.due("a fault", Checks.read(x, "square 4 4; hole 0 0; asks = 9; seed"), 1);
        Checks.due("its place", x.place(), 36);
        Checks.due("wide stays", x.count(0), 3);
        Checks.due("no hole came", x.count(2), 0);
        Checks.due("stones stay", x.count(3), 2);
        Checks.due("the law stays", x.stone(0, 4), 5);
        Checks.due("undo stays", x.count(9), 1);
        Checks.due("told stays", x.count(10), 1);
        Checks.due("slots stay", x.count(11), 1);
        Checks.due("the tape goes", x.count(8), 0);
        Checks.due("another fault", Checks.read(x, "hole 4 4;"), 6);
        Checks.due("its place", x.place(), 9);
        Checks.due("then none", Checks.read(x, "square 3 2;"), 0);
        Checks.due("no place", x.place(), -1);
    }

    private static void aTextStartsOver() {
        CouplesPaving x = Checks.of("lays = 4; loosens = 100;");
        x.lay(0, 0);
        x.seasons(7);
        x.tell(0, true);
        x.hold(0);
        Checks.due("paid", x.count(6), 4);
        Checks.due("loosened", x.count(12), 1);
        Checks.due("read of nothing", x.read(), 0);
        for (int what = 2; what <= 16; what++) {
            Checks.due("anew: count " + what, x.count(what), what == 14 ? 16 : 0);
        }
        Checks.due("anew: nothing to undo", x.undo(), false);
        Checks.due("anew: nothing held", x.restore(0), false);
        x.lay(0, 0);
        Checks.due("anew: LAYS is 0 again", x.count(6), 0);
        Checks.due("anew: LOOSENS is 0 again", x.stone(0, 5), 0);
    }
}
