import java.lang.management.ManagementFactory;

/** What the program makes: all of it in the constructor, and little; no call makes anything more. */
public final class RoomTest {
    private static final long MOST_BYTES_OF_AN_OBJECT = 120000;

    private RoomTest() {
    }

    private static long made() {
        com.sun.management.ThreadMXBean threads = (com.sun.management.ThreadMXBean) ManagementFactory.getThreadMXBean();
        return threads.getThreadAllocatedBytes(Thread.currentThread().getId());
    }

    public static void main(String[] args) {
        int[] text = Checks.fives(("square 6 6; asks = 3 * which; loosens = if age < 3 then 0 else (age + which) * 2;"
            + "lays = stones; stone 0 0 0; stone 0 1 0; seed 99;").getBytes(java.nio.charset.StandardCharsets.ISO_8859_1));
        callAll(new CouplesPaving(), text);
        new CouplesPaving();
        long before = made();
        CouplesPaving x = new CouplesPaving();
        long object = made() - before;
        before = made();
        long empty = made() - before;
        before = made();
        callAll(x, text);
        long calls = made() - before - empty;
        System.out.println("an object makes " + object + " bytes, all calls " + calls);
        Checks.due("an object is small", object > 0 && object < MOST_BYTES_OF_AN_OBJECT, true);
        Checks.due("calls make nothing", calls, 0);
        Checks.finish("RoomTest");
    }

    private static void callAll(CouplesPaving x, int[] v) {
        for (int i = 0; i < v.length; i += 5) {
            x.feed(v[i], v[i + 1], v[i + 2], v[i + 3], v[i + 4]);
        }
        x.back(0);
        x.read();
        x.place();
        for (int round = 0; round < 3; round++) {
            act(x);
            ask(x);
        }
    }

    private static void act(CouplesPaving x) {
        x.lay(2, 0);
        x.turn(0);
        x.lift(0);
        x.undo();
        x.tell(5, true);
        x.tell(9, false);
        x.hold(1);
        x.pave(4000);
        x.turn(x.turns(0));
        x.seasons(4);
        x.restore(1);
        x.forget();
        x.tell(0, true);
    }

    private static void ask(CouplesPaving x) {
        x.cell(0, 1);
        x.stone(0, 4);
        x.all();
        x.rest();
        x.across(30);
        x.frozen(-1);
        x.more();
        x.shortBy();
        x.widows(0, 35);
        x.then(-1, 60);
        x.year(60, 20);
        x.fit(1, 2);
        x.look(1);
        x.lowest(0);
        x.pave(100);
        x.rank();
        x.hill(3, 3);
        x.way(5000);
        x.farthest(0);
        x.turns(-1);
        x.cheapest(0);
        x.count(15);
    }
}
