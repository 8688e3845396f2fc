/** Promises 30 to 33: which paving it was, by how told cells lay. */
public final class ToldTest {
    private ToldTest() {
    }

    public static void main(String[] args) {
        tellAndForget();
        fits();
        looks();
        lookingFindsIt();
        Checks.finish("ToldTest");
    }

    private static void tellAndForget() {
        CouplesPaving x = Checks.of("hole 1 0; hole 0 1;");
        Checks.due("a hole", x.tell(1, true), -1);
        Checks.due("no such cell", x.tell(16, true), -1);
        Checks.due("no such cell", x.tell(-1, false), -1);
        Checks.due("nothing to forget", x.forget(), 0);
        for (int i = 0; i < 20; i++) {
            Checks.due("tell " + i, x.tell(15, i % 2 == 0), i);
        }
        Checks.due("20 are there", x.tell(15, true), -1);
        Checks.due("told", x.count(10), 20);
        Checks.due("fit of 20", x.fit(20, 0), 0);
        Checks.due("fit of 21", x.fit(21, 0), -1);
        Checks.due("no thing done", x.count(9), 0);
        Checks.due("forget", x.forget(), 20);
        Checks.due("forgotten", x.count(10), 0);
        Checks.due("numbered from 0 on", x.tell(15, true), 0);
        Checks.due("a corner of its own", x.fit(0, 0), 0);
    }

    private static void fits() {
        // Of 4 by 2: 0 all across, 1 across, down, down, across below .. in the document's order.
        CouplesPaving x = Checks.of("square 4 2; stone 0 0 0;");
        Checks.due("all", x.fit(0, 0), 5);
        Checks.due("the first", x.fit(0, 1), 0);
        Checks.due("the last", x.fit(0, 2), 4);
        x.tell(0, false);
        x.tell(3, false);
        x.tell(1, true);
        Checks.due("down at the left", x.fit(1, 0), 3);
        Checks.due("the first of these", x.fit(1, 1), 2);
        Checks.due("the last of these", x.fit(1, 2), 4);
        Checks.due("down at the right too", x.fit(2, 0), 2);
        Checks.due("across between", x.fit(3, 0), 1);
        Checks.due("which it was", x.fit(3, 1), 2);
        Checks.due("the only one is the last", x.fit(3, 2), 2);
        x.tell(4, true);
        Checks.due("none is left", x.fit(4, 0), 0);
        Checks.due("no first", x.fit(4, 1), -2);
        Checks.due("no last", x.fit(4, 2), -2);
        Checks.due("no such what", x.fit(4, 3), -1);
        Checks.due("no such what", x.fit(0, -1), -1);
        Checks.due("no such k", x.fit(5, 0), -1);
        Checks.due("no such k", x.fit(-1, 1), -1);
        x.forget();
        Checks.due("all again", x.fit(0, 0), 5);
    }

    private static void looks() {
        CouplesPaving x = Checks.of("square 4 2; stone 0 0 0;");
        // Across, of 5: cell 0 in 2, cell 1 in 3, both leave 3 at worst.
        Checks.due("the first of alike ones", x.look(0), 0);
        Checks.due("no such k", x.look(1), -1);
        Checks.due("no such k", x.look(-1), -1);
        x.tell(0, false);
        // Of the three left, cell 1 lies across in one.
        Checks.due("a cell that is known tells nothing", x.look(1), 1);
        x.tell(0, true);
        Checks.due("none is left", x.look(2), -2);
        Checks.due("known by less", x.look(1), 1);
        Checks.due("all holes", Checks.of("square 2 2; hole 0 0; hole 1 0; hole 0 1; hole 1 1;").look(0), -2);
        Checks.due("no paving", Checks.of("square 3 3;").look(0), -2);
        CouplesPaving one = Checks.of("square 2 2; hole 0 0; hole 1 0;");
        Checks.due("one is left: the first cell without a hole", one.look(0), 2);
    }

    // Looking where it says, told the truth, must end with the paving itself within twenty looks.
    private static void lookingFindsIt() {
        for (int i = 0; i < 6728; i += 97) {
            CouplesPaving x = Checks.of("square 6 6;");
            x.pave(i);
            int k = 0;
            while (k < 20 && x.fit(k, 0) > 1) {
                int c = x.look(k);
                x.tell(c, Math.abs(x.cell(c, 1) - c) == 1);
                k++;
            }
            Checks.due("found", x.fit(k, 0), 1);
            Checks.due("which", x.fit(k, 1), i);
        }
    }
}
