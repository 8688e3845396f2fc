import java.util.function.IntBinaryOperator;
import java.util.function.IntUnaryOperator;

/** Every question with every argument in and around its range, in some states, compared with the plain model. */
public final class EdgesTest {
    private static final String[] TEXTS = {
        "",
        "square 2 2; stone 0 0 0; stone 0 1 0;",
        "square 2 2; hole 0 0; hole 1 0; hole 0 1; hole 1 1; loosens = 100;",
        "square 3 2; hole 0 0; hole 2 1; stone 0 1 0; loosens = 50; seed 12;",
        "square 6 2; stone 2 0 0; stone 2 1 0; asks = left * 3; loosens = age * 7; seed 1;",
        "square 3 3; hole 1 1; stone 0 0 1; stone 1 0 0; asks = which / (1 - which); lays = 7; loosens = 9;",
        "square 5 4; stone 0 0 0; stone 0 1 0; stone 3 2 1; stone 4 2 1; asks = 9 - top; loosens = 2 + which; seed 55;",
        "square 4 5; hole 0 0; hole 3 4; stone 1 1 1; stone 2 1 1; asks = stones * holes - turned; loosens = season;"};
    private static final int[] EXTREMES = {Integer.MIN_VALUE, Integer.MIN_VALUE + 1, -65536, -100, -3, 62, 99, 1000, 65536,
        Integer.MAX_VALUE - 1, Integer.MAX_VALUE};

    private EdgesTest() {
    }

    public static void main(String[] args) {
        for (int t = 0; t < TEXTS.length; t++) {
            for (int deeds = 0; deeds < 4; deeds++) {
                sweep(t, deeds);
            }
        }
        Checks.finish("EdgesTest");
    }

    private static CouplesPaving program(int t, int deeds) {
        CouplesPaving x = new CouplesPaving();
        Checks.read(x, TEXTS[t]);
        if (deeds > 0) {
            x.tell(1, true);
            x.tell(3, false);
            x.seasons(deeds);
            x.lay(1, 0);
            x.turn(0);
        }
        if (deeds > 1) {
            x.pave(x.all() / deeds);
            x.turn(x.turns(0));
            x.seasons(1);
        }
        return x;
    }

    private static PlainPaving model(int t, int deeds) {
        PlainPaving p = new PlainPaving();
        int[] v = Checks.fives(TEXTS[t].getBytes(java.nio.charset.StandardCharsets.ISO_8859_1));
        for (int i = 0; i < v.length; i += 5) {
            p.feed(v[i], v[i + 1], v[i + 2], v[i + 3], v[i + 4]);
        }
        p.read();
        if (deeds > 0) {
            p.tell(1, true);
            p.tell(3, false);
            p.seasons(deeds);
            p.lay(1, 0);
            p.turn(0);
        }
        if (deeds > 1) {
            p.pave(p.all() / deeds);
            p.turn(p.turns(0));
            p.seasons(1);
        }
        return p;
    }

    private static void one(String name, int most, IntUnaryOperator got, IntUnaryOperator want) {
        for (int a = -2; a <= most + 1; a++) {
            Checks.due(name + "(" + a + ")", got.applyAsInt(a), want.applyAsInt(a));
        }
        for (int a : EXTREMES) {
            Checks.due(name + "(" + a + ")", got.applyAsInt(a), want.applyAsInt(a));
        }
    }

    private static void two(String name, int mostA, int mostB, IntBinaryOperator got, IntBinaryOperator want) {
        one(name + " with 0", mostA, a -> got.applyAsInt(a, 0), a -> want.applyAsInt(a, 0));
        one(name + " with 1", mostA, a -> got.applyAsInt(a, 1), a -> want.applyAsInt(a, 1));
        for (int a = -2; a <= mostA + 1; a += 1 + mostA / 8) {
            int fixed = a;
            one(name + " of " + a, mostB, b -> got.applyAsInt(fixed, b), b -> want.applyAsInt(fixed, b));
        }
    }

    private static void sweep(int t, int deeds) {
        CouplesPaving x = program(t, deeds);
        PlainPaving p = model(t, deeds);
        int cells = x.count(0) * x.count(1);
        Checks.due("all", x.all(), p.all());
        Checks.due("rest", x.rest(), p.rest());
        Checks.due("more", x.more(), p.more());
        Checks.due("shortBy", x.shortBy(), p.shortBy());
        Checks.due("rank", x.rank(), p.rank());
        one("count", 16, x::count, p::count);
        one("across", cells, x::across, p::across);
        one("frozen", cells, x::frozen, p::frozen);
        one("farthest", 2, x::farthest, p::farthest);
        one("lowest", 2, x::lowest, p::lowest);
        one("turns", 8, x::turns, p::turns);
        one("cheapest", 2, x::cheapest, p::cheapest);
        one("look", 3, x::look, p::look);
        one("way", Math.min(p.all(), 40), program(t, deeds)::way, p::way);
        CouplesPaving y = program(t, deeds);
        two("cell", cells, 3, y::cell, p::cell);
        CouplesPaving z = program(t, deeds);
        two("stone", 18, 5, z::stone, p::stone);
        CouplesPaving u = program(t, deeds);
        two("hill", 6, 6, u::hill, p::hill);
        CouplesPaving v = program(t, deeds);
        two("fit", 3, 2, v::fit, p::fit);
        CouplesPaving w = program(t, deeds);
        two("then", cells, 8, w::then, p::then);
        CouplesPaving r = program(t, deeds);
        two("year", 8, 20, r::year, p::year);
        CouplesPaving s = program(t, deeds);
        two("widows", cells, cells, s::widows, p::widows);
        deedsRefused(t, deeds);
    }

    private static void deedsRefused(int t, int deeds) {
        CouplesPaving x = program(t, deeds);
        int done = x.count(9);
        for (int n : EXTREMES) {
            Checks.due("back(" + n + ")", x.back(n), -1);
            Checks.due("lay(" + n + ", 0)", x.lay(n, 0), -1);
            Checks.due("lay(0, " + n + ")", x.lay(0, n), -1);
            Checks.due("lift(" + n + ")", x.lift(n), false);
            Checks.due("turn(" + n + ")", x.turn(n), -1);
            Checks.due("tell(" + n + ")", x.tell(n, true), -1);
            Checks.due("seasons(" + n + ")", x.seasons(n), -1);
            Checks.due("hold(" + n + ")", x.hold(n), false);
            Checks.due("restore(" + n + ")", x.restore(n), false);
            if (n < 0 || n > 8000) {
                Checks.due("pave(" + n + ")", x.pave(n), false);
            }
        }
        Checks.due("nothing was done", x.count(9), done);
    }
}
