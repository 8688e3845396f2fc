import java.nio.charset.StandardCharsets;
import java.util.Random;

/** Runs of calls by chance, each answer compared with the plain model's. An argument may tell how many runs. */
public final class ModelTest {
    private final Random chance;
    private final Texts texts;
    private final CouplesPaving x = new CouplesPaving();
    private final PlainPaving p = new PlainPaving();
    private final int run;
    private String latest = "";
    private int calls = 0;

    private ModelTest(int run) {
        this.run = run;
        chance = new Random(run * 7919L + 17);
        texts = new Texts(chance);
    }

    public static void main(String[] args) {
        int from = args.length > 1 && args[0].equals("runs") ? Integer.parseInt(args[1]) : 0;
        int runs = args.length > 2 && args[0].equals("runs") ? Integer.parseInt(args[2]) : 400;
        for (int run = from; run < from + runs && Checks.wrongSoFar() < 20; run++) {
            new ModelTest(run).go();
        }
        Checks.finish("ModelTest");
    }

    private void go() {
        int most = 30 + chance.nextInt(480);
        if (chance.nextInt(8) != 0) {
            text(texts.any());
        }
        while (calls < most) {
            step();
        }
        for (int what = -1; what < 18; what++) {
            same("count(" + what + ")", x.count(what), p.count(what));
        }
    }

    private void same(String call, long got, long want) {
        calls++;
        int before = Checks.wrongSoFar();
        Checks.due("run " + run + ", call " + calls + ": " + call, got, want);
        if (Checks.wrongSoFar() > before) {
            System.out.println("   the latest text: " + latest.replace('\n', ' ').replace('\r', ' '));
        }
    }

    private void same(String call, boolean got, boolean want) {
        same(call, got ? 1 : 0, want ? 1 : 0);
    }

    private void text(String text) {
        latest = text;
        byte[] bytes = text.getBytes(StandardCharsets.ISO_8859_1);
        int[] v = Checks.fives(bytes);
        for (int i = 0; i < v.length; i += 5) {
            same("feed", x.feed(v[i], v[i + 1], v[i + 2], v[i + 3], v[i + 4]),
                p.feed(v[i], v[i + 1], v[i + 2], v[i + 3], v[i + 4]));
        }
        int filling = v.length * 4 - bytes.length;
        same("back(" + filling + ")", x.back(filling), p.back(filling));
        same("read", x.read(), p.read());
        same("place", x.place(), p.place());
    }

    private int number(int least, int most) {
        if (chance.nextInt(25) == 0) {
            int[] odd = {least - 1, most + 1, -2, -1, 0, Integer.MAX_VALUE, Integer.MIN_VALUE, 36, 64, 1 << 16};
            return odd[chance.nextInt(odd.length)];
        }
        return least + chance.nextInt(most - least + 1);
    }

    private int cell() {
        int cells = p.count(0) * p.count(1);
        return number(0, cells - 1);
    }

    private int paving() {
        return number(0, Math.max(0, p.all() - 1));
    }

    private void step() {
        int kind = chance.nextInt(100);
        if (kind < 45) {
            act(chance.nextInt(11));
        } else if (kind < 70) {
            askLittle(chance.nextInt(13));
        } else if (kind < 99 || chance.nextInt(3) != 0) {
            askMuch(chance.nextInt(16));
        } else {
            text(texts.any());
        }
    }

    private void act(int kind) {
        int c = cell();
        int n;
        switch (kind) {
            case 0: case 1: case 2:
                n = number(0, 1);
                same("lay(" + c + ", " + n + ")", x.lay(c, n), p.lay(c, n));
                break;
            case 3:
                same("lift(" + c + ")", x.lift(c), p.lift(c));
                break;
            case 4: case 5: case 6:
                n = p.turns(-1) > 0 && chance.nextInt(4) != 0 ? p.turns(chance.nextInt(p.turns(-1))) : c;
                same("turn(" + n + ")", x.turn(n), p.turn(n));
                break;
            case 7:
                n = paving();
                same("pave(" + n + ")", x.pave(n), p.pave(n));
                break;
            case 8:
                n = chance.nextInt(3) == 0 ? number(0, 60) : number(0, 3);
                same("seasons(" + n + ")", x.seasons(n), p.seasons(n));
                break;
            case 9:
                same("undo", x.undo(), p.undo());
                break;
            default:
                n = number(0, 2);
                if (chance.nextBoolean()) {
                    same("hold(" + n + ")", x.hold(n), p.hold(n));
                } else if (chance.nextInt(3) == 0) {
                    same("restore(" + n + ")", x.restore(n), p.restore(n));
                } else {
                    boolean flat = chance.nextBoolean();
                    same("tell(" + c + ", " + flat + ")", x.tell(c, flat), p.tell(c, flat));
                }
                break;
        }
    }

    private void askLittle(int kind) {
        int c = cell();
        int n;
        switch (kind) {
            case 0: case 1:
                n = number(0, 3);
                same("cell(" + c + ", " + n + ")", x.cell(c, n), p.cell(c, n));
                break;
            case 2: case 3:
                c = number(0, 17);
                n = number(0, 5);
                same("stone(" + c + ", " + n + ")", x.stone(c, n), p.stone(c, n));
                break;
            case 4: case 5: case 6:
                n = number(0, 16);
                same("count(" + n + ")", x.count(n), p.count(n));
                break;
            case 7:
                same("more", x.more(), p.more());
                break;
            case 8:
                n = number(-1, Math.max(0, p.turns(-1)));
                same("turns(" + n + ")", x.turns(n), p.turns(n));
                break;
            case 9:
                n = number(0, 1);
                same("cheapest(" + n + ")", x.cheapest(n), p.cheapest(n));
                break;
            case 10:
                if (chance.nextInt(6) == 0) {
                    same("forget", x.forget(), p.forget());
                }
                break;
            case 11:
                n = number(0, 20);
                same("back(" + n + ")", x.back(n), p.back(n));
                break;
            default:
                same("place", x.place(), p.place());
                break;
        }
    }

    private void askMuch(int kind) {
        int c = cell();
        int n;
        switch (kind) {
            case 0:
                same("all", x.all(), p.all());
                break;
            case 1:
                same("rest", x.rest(), p.rest());
                break;
            case 2:
                same("across(" + c + ")", x.across(c), p.across(c));
                break;
            case 3:
                c = chance.nextInt(3) == 0 ? -1 : c;
                same("frozen(" + c + ")", x.frozen(c), p.frozen(c));
                break;
            case 4:
                same("shortBy", x.shortBy(), p.shortBy());
                break;
            case 5:
                same("rank", x.rank(), p.rank());
                break;
            case 6:
                n = number(0, p.count(0));
                c = number(0, p.count(1));
                same("hill(" + n + ", " + c + ")", x.hill(n, c), p.hill(n, c));
                break;
            case 7:
                n = paving();
                same("way(" + n + ")", x.way(n), p.way(n));
                break;
            case 8:
                n = number(0, 1);
                same("farthest(" + n + ")", x.farthest(n), p.farthest(n));
                break;
            case 9:
                n = number(0, 1);
                same("lowest(" + n + ")", x.lowest(n), p.lowest(n));
                break;
            case 10:
                n = cell();
                same("widows(" + c + ", " + n + ")", x.widows(c, n), p.widows(c, n));
                break;
            default:
                askOn(kind, c);
                break;
        }
    }

    private void askOn(int kind, int c) {
        int n;
        switch (kind) {
            case 11:
                c = chance.nextBoolean() ? -1 : c;
                n = chance.nextBoolean() ? number(0, 60) : number(0, 4);
                same("then(" + c + ", " + n + ")", x.then(c, n), p.then(c, n));
                break;
            case 12:
                n = chance.nextBoolean() ? number(0, 60) : number(0, 4);
                c = number(1, 20);
                same("year(" + n + ", " + c + ")", x.year(n, c), p.year(n, c));
                break;
            case 13: case 14:
                n = number(0, p.count(10));
                c = number(0, 2);
                same("fit(" + n + ", " + c + ")", x.fit(n, c), p.fit(n, c));
                break;
            default:
                n = number(0, p.count(10));
                same("look(" + n + ")", x.look(n), p.look(n));
                break;
        }
    }
}
