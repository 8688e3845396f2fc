import java.util.ArrayDeque;
import java.util.ArrayList;
import java.util.Arrays;
import java.util.Collections;
import java.util.Deque;
import java.util.HashMap;
import java.util.List;
import java.util.Map;
import java.util.Random;
import java.util.regex.Matcher;
import java.util.regex.Pattern;

/**
 * The document done in the plainest way, to be compared with: all pavings are made and sorted by the
 * document's own words, the grammar is a list of rules tried all at once, and nothing is clever.
 */
final class PlainPaving {
    static final int NONE = -1;

    static final class Token {
        final String word;
        final int place;
        final boolean isInt;

        Token(String word, int place, boolean isInt) {
            this.word = word;
            this.place = place;
            this.isInt = isInt;
        }

        int value() {
            return Integer.parseInt(word);
        }
    }

    static final class Stone {
        int x;
        int y;
        boolean across;
        int turned;
        int age;

        Stone(int x, int y, boolean across) {
            this.x = x;
            this.y = y;
            this.across = across;
        }

        Stone copy() {
            Stone s = new Stone(x, y, across);
            s.turned = turned;
            s.age = age;
            return s;
        }
    }

    static final class World {
        Stone[] stones = new Stone[18];
        int season;
        int paid;
        int loosened;

        World copy() {
            World w = new World();
            for (int i = 0; i < 18; i++) {
                w.stones[i] = stones[i] == null ? null : stones[i].copy();
            }
            w.season = season;
            w.paid = paid;
            w.loosened = loosened;
            return w;
        }

        int lying() {
            int n = 0;
            for (Stone s : stones) {
                n += s == null ? 0 : 1;
            }
            return n;
        }
    }

    private final StringBuilder tape = new StringBuilder();
    private int place = NONE;
    private int wide = 4;
    private int high = 4;
    private boolean[] hole = new boolean[16];
    private int seed = 0;
    private final Map<String, List<Token>> laws = new HashMap<>();
    private World world = new World();
    private Deque<World> past = new ArrayDeque<>();
    private World[] slots = new World[3];
    private final List<int[]> told = new ArrayList<>();
    private List<int[]> pavings;

    // ---- the text

    int feed(int a, int b, int c, int d, int e) {
        if (tape.length() + 20 > 2000) {
            return NONE;
        }
        for (int v : new int[] {a, b, c, d, e}) {
            tape.append((char) (v >>> 24)).append((char) (v >> 16 & 255)).append((char) (v >> 8 & 255)).append((char) (v & 255));
        }
        return tape.length();
    }

    int back(int n) {
        if (n < 0 || n > tape.length()) {
            return NONE;
        }
        tape.setLength(tape.length() - n);
        return tape.length();
    }

    int place() {
        return place;
    }

    // Symbols that are no words of the grammar's left side are tokens; '#' is any INT.
    private static final Map<String, String[]> RULES = new HashMap<>();

    static {
        RULES.put("TEXT", new String[] {"", "TELL TEXT"});
        RULES.put("TELL", new String[] {"square # # ;", "hole # # ;", "stone # # # ;", "asks LAW ;", "loosens LAW ;",
            "lays LAW ;", "seed # ;"});
        RULES.put("LAW", new String[] {"= IFS E"});
        RULES.put("IFS", new String[] {"", "if E < E then E else IFS"});
        RULES.put("E", new String[] {"PART ES"});
        RULES.put("ES", new String[] {"", "+ PART ES", "- PART ES"});
        RULES.put("PART", new String[] {"UNIT PARTS"});
        RULES.put("PARTS", new String[] {"", "* UNIT PARTS", "/ UNIT PARTS"});
        RULES.put("UNIT", new String[] {"#", "VAR", "( E )"});
        RULES.put("VAR", new String[] {"across", "left", "top", "turned", "age", "season", "which", "stones", "holes"});
    }

    private static void expand(List<String> form, List<List<String>> into) {
        if (form.isEmpty() || !RULES.containsKey(form.get(0))) {
            into.add(form);
            return;
        }
        for (String rule : RULES.get(form.get(0))) {
            List<String> longer = new ArrayList<>();
            if (!rule.isEmpty()) {
                longer.addAll(Arrays.asList(rule.split(" ")));
            }
            longer.addAll(form.subList(1, form.size()));
            expand(longer, into);
        }
    }

    private static final Pattern PIECE = Pattern.compile("[\\t\\n\\r ]+|([a-z]+)|([0-9]+)|([;=+\\-*/<()])|([\\s\\S])");

    int read() {
        String text = tape.toString();
        tape.setLength(0);
        List<Token> tokens = new ArrayList<>();
        place = NONE;
        Matcher m = PIECE.matcher(text);
        List<List<String>> forms = new ArrayList<>();
        expand(List.of("TEXT"), forms);
        int holes = 0;
        int stones = 0;
        int ifs = 0;
        int depth = 0;
        while (m.find()) {
            if (m.group(1) == null && m.group(2) == null && m.group(3) == null && m.group(4) == null) {
                continue;
            }
            boolean isInt = m.group(2) != null && m.group().length() <= 4;
            boolean isName = m.group(1) != null && m.group().length() <= 8;
            boolean isToken = isInt || isName || m.group(3) != null;
            String key = isInt ? "#" : m.group();
            List<List<String>> next = new ArrayList<>();
            for (List<String> form : forms) {
                if (isToken && !form.isEmpty() && form.get(0).equals(key)) {
                    expand(form.subList(1, form.size()), next);
                }
            }
            if (next.isEmpty()) {
                place = m.start();
                return 1;
            }
            forms = next;
            tokens.add(new Token(m.group(), m.start(), isInt));
            switch (key) {
                case "hole": holes++; break;
                case "stone": stones++; break;
                case "=": ifs = 0; break;
                case "if": ifs++; break;
                case "(": depth++; break;
                case ")": depth--; break;
                default: break;
            }
            boolean tooMany = key.equals("hole") && holes > 12 || key.equals("stone") && stones > 18
                || key.equals("if") && ifs > 4 || key.equals("(") && depth > 6 || tokens.size() > 400;
            if (tooMany) {
                place = m.start();
                return 2;
            }
        }
        boolean whole = false;
        for (List<String> form : forms) {
            whole |= form.isEmpty();
        }
        if (!whole) {
            place = text.length();
            return 1;
        }
        return take(tokens, text.length());
    }

    private int take(List<Token> tokens, int length) {
        int w = 4;
        int h = 4;
        int s = 0;
        List<int[]> holes = new ArrayList<>();
        List<int[]> stones = new ArrayList<>();
        Map<String, List<Token>> newLaws = new HashMap<>();
        int from = 0;
        for (int i = 0; i < tokens.size(); i++) {
            if (!tokens.get(i).word.equals(";")) {
                continue;
            }
            List<Token> tell = tokens.subList(from, i);
            from = i + 1;
            String kind = tell.get(0).word;
            if (kind.equals("asks") || kind.equals("loosens") || kind.equals("lays")) {
                newLaws.put(kind, new ArrayList<>(tell.subList(2, tell.size())));
                continue;
            }
            int[] v = new int[tell.size() - 1];
            for (int k = 0; k < v.length; k++) {
                v[k] = tell.get(k + 1).value();
                boolean good = kind.equals("square") ? v[k] >= 2 && v[k] <= 6
                    : kind.equals("seed") || (k == 2 ? v[k] <= 1 : v[k] <= 5);
                if (!good) {
                    place = tell.get(k + 1).place;
                    return 5;
                }
            }
            switch (kind) {
                case "square": w = v[0]; h = v[1]; break;
                case "seed": s = v[0]; break;
                case "hole": holes.add(v); break;
                default: stones.add(v); break;
            }
        }
        int[][] used = new int[12][12];
        boolean bad = false;
        for (int[] v : holes) {
            bad |= v[0] >= w || v[1] >= h || used[v[1]][v[0]]++ > 0;
        }
        for (int[] v : stones) {
            int x2 = v[0] + (v[2] == 0 ? 1 : 0);
            int y2 = v[1] + v[2];
            bad |= x2 >= w || y2 >= h || v[0] >= w || v[1] >= h;
            bad |= used[v[1]][v[0]]++ > 0;
            bad |= used[y2][x2]++ > 0;
        }
        if (bad) {
            place = length;
            return 6;
        }
        wide = w;
        high = h;
        seed = s;
        hole = new boolean[w * h];
        for (int[] v : holes) {
            hole[v[1] * w + v[0]] = true;
        }
        laws.clear();
        laws.putAll(newLaws);
        world = new World();
        for (int i = 0; i < stones.size(); i++) {
            int[] v = stones.get(i);
            world.stones[i] = new Stone(v[0], v[1], v[2] == 0);
        }
        past.clear();
        slots = new World[3];
        told.clear();
        pavings = null;
        return 0;
    }

    // ---- the laws

    private static final class DividedByNothing extends Exception {
        private static final long serialVersionUID = 1L;
    }

    private final class Sum {
        final List<Token> tokens;
        final World w;
        final int couple;
        int at;

        Sum(List<Token> tokens, World w, int couple) {
            this.tokens = tokens;
            this.w = w;
            this.couple = couple;
        }

        String peek() {
            return at < tokens.size() ? tokens.get(at).word : "";
        }

        int value() throws DividedByNothing {
            while (peek().equals("if")) {
                at++;
                int a = e();
                at++;
                int b = e();
                at++;
                if (a < b) {
                    return e();
                }
                while (!peek().equals("else")) {
                    at++;
                }
                at++;
            }
            return e();
        }

        int e() throws DividedByNothing {
            int v = part();
            while (peek().equals("+") || peek().equals("-")) {
                boolean plus = peek().equals("+");
                at++;
                int r = part();
                v = plus ? v + r : v - r;
            }
            return v;
        }

        int part() throws DividedByNothing {
            int v = unit();
            while (peek().equals("*") || peek().equals("/")) {
                boolean times = peek().equals("*");
                at++;
                int r = unit();
                if (!times && r == 0) {
                    throw new DividedByNothing();
                }
                v = times ? v * r : (int) ((long) v / (long) r);
            }
            return v;
        }

        int unit() throws DividedByNothing {
            Token t = tokens.get(at++);
            if (t.word.equals("(")) {
                int v = e();
                at++;
                return v;
            }
            if (t.isInt) {
                return t.value();
            }
            Stone s = w.stones[couple];
            switch (t.word) {
                case "across": return s.across ? 1 : 0;
                case "left": return s.x;
                case "top": return s.y;
                case "turned": return s.turned;
                case "age": return s.age;
                case "season": return w.season;
                case "which": return couple;
                case "stones": return w.lying();
                case "holes": return holes();
                default: throw new IllegalStateException(t.word);
            }
        }
    }

    private int law(String name, World w, int couple) {
        List<Token> law = laws.get(name);
        int v;
        if (law == null) {
            v = name.equals("asks") ? 1 : 0;
        } else {
            try {
                v = new Sum(law, w, couple).value();
            } catch (DividedByNothing e) {
                v = 0;
            }
        }
        return Math.min(Math.max(v, 0), name.equals("loosens") ? 100 : 99);
    }

    private static long lot(int n, int seed, int which) {
        long h = seed & 0xffffffffL;
        for (long it : new long[] {169, which}) {
            h = ((h ^ it) * 1103515245L + 12345) & 0xffffffffL;
            h ^= h >> 15;
        }
        return (h >> 1) % n;
    }

    // ---- the square

    private int holes() {
        int n = 0;
        for (boolean b : hole) {
            n += b ? 1 : 0;
        }
        return n;
    }

    private boolean isCell(int cell) {
        return cell >= 0 && cell < wide * high;
    }

    private int first(Stone s) {
        return s.y * wide + s.x;
    }

    private int second(Stone s) {
        return first(s) + (s.across ? 1 : wide);
    }

    private int coupleOn(World w, int cell) {
        for (int i = 0; i < 18; i++) {
            Stone s = w.stones[i];
            if (s != null && (first(s) == cell || second(s) == cell)) {
                return i;
            }
        }
        return NONE;
    }

    private boolean free(int cell) {
        return isCell(cell) && !hole[cell] && coupleOn(world, cell) == NONE;
    }

    private boolean paved() {
        for (int c = 0; c < wide * high; c++) {
            if (free(c)) {
                return false;
            }
        }
        return true;
    }

    int cell(int cell, int what) {
        if (!isCell(cell) || what < 0 || what > 3) {
            return NONE;
        }
        int couple = coupleOn(world, cell);
        switch (what) {
            case 0: return hole[cell] ? 2 : couple >= 0 ? 1 : 0;
            case 1: return couple < 0 ? -2 : first(world.stones[couple]) + second(world.stones[couple]) - cell;
            case 2: return couple < 0 ? -2 : couple;
            default: return (cell % wide + cell / wide) % 2 == 0 ? 1 : 0;
        }
    }

    int stone(int couple, int what) {
        if (couple < 0 || couple > 17 || what < 0 || what > 5) {
            return NONE;
        }
        Stone s = world.stones[couple];
        if (s == null) {
            return -2;
        }
        return new int[] {first(s), s.across ? 1 : 0, s.turned, s.age, law("asks", world, couple),
            law("loosens", world, couple)}[what];
    }

    private void doing() {
        past.addLast(world.copy());
        if (past.size() > 40) {
            past.removeFirst();
        }
    }

    int lay(int cell, int way) {
        if (!free(cell) || way != 0 && way != 1) {
            return NONE;
        }
        Stone s = new Stone(cell % wide, cell / wide, way == 0);
        if (s.x + (way == 0 ? 1 : 0) >= wide || s.y + way >= high || !free(second(s))) {
            return NONE;
        }
        doing();
        for (int i = 0;; i++) {
            if (world.stones[i] == null) {
                world.stones[i] = s;
                world.paid += law("lays", world, i);
                return i;
            }
        }
    }

    boolean lift(int cell) {
        int couple = isCell(cell) ? coupleOn(world, cell) : NONE;
        if (couple == NONE) {
            return false;
        }
        doing();
        world.stones[couple] = null;
        return true;
    }

    private boolean turnable(int cell) {
        if (!isCell(cell) || cell % wide == wide - 1 || cell / wide == high - 1) {
            return false;
        }
        int a = coupleOn(world, cell);
        int b = coupleOn(world, cell + 1);
        int c = coupleOn(world, cell + wide);
        int d = coupleOn(world, cell + wide + 1);
        if (a < 0 || b < 0 || c < 0 || d < 0) {
            return false;
        }
        return a == b && c == d || a == c && b == d;
    }

    private int price(int cell) {
        return law("asks", world, coupleOn(world, cell)) + law("asks", world, coupleOn(world, cell + wide + 1));
    }

    int turn(int cell) {
        if (!turnable(cell)) {
            return NONE;
        }
        doing();
        int paid = price(cell);
        Stone a = world.stones[coupleOn(world, cell)];
        Stone b = world.stones[coupleOn(world, cell + wide + 1)];
        if (a.across) {
            b.x = a.x + 1;
            b.y = a.y;
        } else {
            b.x = a.x;
            b.y = a.y + 1;
        }
        a.across = !a.across;
        b.across = !b.across;
        a.turned++;
        b.turned++;
        world.paid += paid;
        return paid;
    }

    boolean pave(int i) {
        if (i < 0 || i >= pavings().size()) {
            return false;
        }
        doing();
        int[] mates = pavings().get(i);
        world.stones = new Stone[18];
        int n = 0;
        for (int c = 0; c < wide * high; c++) {
            if (mates[c] > c) {
                world.stones[n++] = new Stone(c % wide, c / wide, mates[c] == c + 1);
            }
        }
        return true;
    }

    private void season(World w, int bySeed) {
        boolean[] loose = new boolean[18];
        for (int i = 0; i < 18; i++) {
            loose[i] = w.stones[i] != null && lot(100, bySeed, 32 * w.season + i) < law("loosens", w, i);
        }
        for (int i = 0; i < 18; i++) {
            if (loose[i]) {
                w.stones[i] = null;
                w.loosened++;
            } else if (w.stones[i] != null) {
                w.stones[i].age++;
            }
        }
        w.season++;
    }

    int seasons(int n) {
        if (n < 0 || n > 60) {
            return NONE;
        }
        if (n > 0) {
            doing();
        }
        for (int i = 0; i < n; i++) {
            season(world, seed);
        }
        return world.season;
    }

    boolean undo() {
        if (past.isEmpty()) {
            return false;
        }
        world = past.removeLast();
        return true;
    }

    // ---- all pavings, by the document's order

    private void pavingsFrom(int[] mates, List<int[]> into) {
        int c = 0;
        while (c < mates.length && mates[c] != NONE) {
            c++;
        }
        if (c == mates.length) {
            into.add(mates.clone());
            return;
        }
        for (int step : new int[] {wide, 1}) {
            boolean inside = step == 1 ? c % wide < wide - 1 : c + wide < mates.length;
            if (inside && mates[c + step] == NONE) {
                mates[c] = c + step;
                mates[c + step] = c;
                pavingsFrom(mates, into);
                mates[c] = NONE;
                mates[c + step] = NONE;
            }
        }
    }

    // A closed cell is its own mate.
    private List<int[]> pavingsWithout(boolean[] closed) {
        int[] mates = new int[wide * high];
        for (int c = 0; c < mates.length; c++) {
            mates[c] = closed[c] ? c : NONE;
        }
        List<int[]> found = new ArrayList<>();
        pavingsFrom(mates, found);
        return found;
    }

    private List<int[]> pavings() {
        if (pavings == null) {
            pavings = pavingsWithout(hole);
            Collections.shuffle(pavings, new Random(1));
            pavings.sort((p, q) -> {
                for (int c = 0; c < p.length; c++) {
                    if (p[c] != q[c]) {
                        return p[c] == c + 1 ? -1 : 1;
                    }
                }
                return 0;
            });
        }
        return pavings;
    }

    private boolean isAcross(int[] mates, int cell) {
        return mates[cell] == cell + 1 || mates[cell] == cell - 1;
    }

    int all() {
        return pavings().size();
    }

    private List<int[]> restOf() {
        List<int[]> left = new ArrayList<>();
        for (int[] mates : pavings()) {
            boolean fits = true;
            for (Stone s : world.stones) {
                fits &= s == null || mates[first(s)] == second(s);
            }
            if (fits) {
                left.add(mates);
            }
        }
        return left;
    }

    int rest() {
        return restOf().size();
    }

    private int countAcross(List<int[]> of, int cell) {
        int n = 0;
        for (int[] mates : of) {
            n += isAcross(mates, cell) ? 1 : 0;
        }
        return n;
    }

    int across(int cell) {
        return !isCell(cell) || hole[cell] ? NONE : countAcross(restOf(), cell);
    }

    int frozen(int cell) {
        if (cell != NONE && !isCell(cell)) {
            return NONE;
        }
        List<int[]> left = restOf();
        int n = 0;
        for (int c = 0; c < wide * high; c++) {
            boolean same = free(c) && !left.isEmpty();
            for (int[] mates : left) {
                same &= mates[c] == left.get(0)[c];
            }
            if (same) {
                n++;
            }
            if (c == cell) {
                return same ? left.get(0)[c] : -2;
            }
        }
        return n;
    }

    int more() {
        int n = 0;
        for (int c = 0; c < wide * high; c++) {
            n += free(c) ? cell(c, 3) * 2 - 1 : 0;
        }
        return n;
    }

    private List<Integer> freeNeighbours(int c) {
        List<Integer> list = new ArrayList<>();
        if (c % wide > 0) {
            list.add(c - 1);
        }
        if (c % wide < wide - 1) {
            list.add(c + 1);
        }
        list.add(c - wide);
        list.add(c + wide);
        list.removeIf(d -> !free(d));
        return list;
    }

    private boolean augment(int c, int[] matched, boolean[] seen) {
        for (int d : freeNeighbours(c)) {
            if (!seen[d]) {
                seen[d] = true;
                if (matched[d] == NONE || augment(matched[d], matched, seen)) {
                    matched[d] = c;
                    return true;
                }
            }
        }
        return false;
    }

    int shortBy() {
        int[] matched = new int[wide * high];
        Arrays.fill(matched, NONE);
        int left = 0;
        for (int c = 0; c < wide * high; c++) {
            if (free(c)) {
                left++;
                if (cell(c, 3) == 1 && augment(c, matched, new boolean[wide * high])) {
                    left -= 2;
                }
            }
        }
        return left;
    }

    private int[] lying() {
        int[] mates = new int[wide * high];
        for (int c = 0; c < mates.length; c++) {
            mates[c] = hole[c] ? c : cell(c, 1);
        }
        return mates;
    }

    private int numberOf(int[] mates) {
        for (int i = 0; i < pavings().size(); i++) {
            if (Arrays.equals(pavings().get(i), mates)) {
                return i;
            }
        }
        throw new IllegalStateException("a paving without a number");
    }

    int rank() {
        return paved() ? numberOf(lying()) : -2;
    }

    // To the right along the top first, then down, with every way looked at.
    private int hillOf(int[] mates, int x, int y) {
        int h = 0;
        for (int i = 0; i < x; i++) {
            h += i % 2 == 0 ? 1 : -1;
        }
        for (int j = 0; j < y; j++) {
            boolean over = x > 0 && x < wide && mates[j * wide + x] == j * wide + x - 1;
            boolean odd = (x + j) % 2 == 1;
            h += over ? (odd ? -3 : 3) : odd ? 1 : -1;
        }
        return h;
    }

    private int apart(int[] p, int[] q) {
        int sum = 0;
        for (int x = 0; x <= wide; x++) {
            for (int y = 0; y <= high; y++) {
                sum += Math.abs(hillOf(p, x, y) - hillOf(q, x, y));
            }
        }
        return sum / 4;
    }

    int hill(int x, int y) {
        boolean has = holes() == 0 && paved() && x >= 0 && x <= wide && y >= 0 && y <= high;
        return has ? hillOf(lying(), x, y) : -100;
    }

    int way(int i) {
        if (i < 0 || i >= all()) {
            return NONE;
        }
        return holes() > 0 || !paved() ? -2 : apart(lying(), pavings().get(i));
    }

    int farthest(int what) {
        if (what != 0 && what != 1) {
            return NONE;
        }
        if (holes() > 0 || !paved()) {
            return -2;
        }
        int[] here = lying();
        int longest = -1;
        int which = -1;
        for (int i = 0; i < all(); i++) {
            int d = apart(here, pavings().get(i));
            if (d > longest) {
                longest = d;
                which = i;
            }
        }
        return what == 0 ? which : longest;
    }

    int lowest(int what) {
        if (what != 0 && what != 1 || holes() > 0 || all() == 0) {
            return -100000;
        }
        int least = Integer.MAX_VALUE;
        int which = -1;
        for (int i = 0; i < all(); i++) {
            int sum = 0;
            for (int x = 0; x <= wide; x++) {
                for (int y = 0; y <= high; y++) {
                    sum += hillOf(pavings().get(i), x, y);
                }
            }
            if (sum < least) {
                least = sum;
                which = i;
            }
        }
        return what == 0 ? which : least;
    }

    private List<Integer> blocks() {
        List<Integer> list = new ArrayList<>();
        for (int c = 0; c < wide * high; c++) {
            if (turnable(c)) {
                list.add(c);
            }
        }
        return list;
    }

    int turns(int i) {
        List<Integer> list = blocks();
        if (i == NONE) {
            return list.size();
        }
        return i < 0 || i >= list.size() ? NONE : list.get(i);
    }

    int cheapest(int what) {
        if (what != 0 && what != 1) {
            return NONE;
        }
        int which = -2;
        for (int c : blocks()) {
            if (which == -2 || price(c) < price(which)) {
                which = c;
            }
        }
        return what == 0 || which == -2 ? which : price(which);
    }

    int widows(int cell, int other) {
        if (!isCell(cell) || !isCell(other) || hole[cell] || hole[other] || cell == other) {
            return NONE;
        }
        boolean[] closed = hole.clone();
        closed[cell] = true;
        closed[other] = true;
        return pavingsWithout(closed).size();
    }

    int then(int cell, int n) {
        if (n < 0 || n > 60 || cell != NONE && !isCell(cell)) {
            return NONE;
        }
        World w = world.copy();
        for (int i = 0; i < n; i++) {
            season(w, seed);
        }
        return cell == NONE ? w.lying() : coupleOn(w, cell) == NONE ? 0 : 1;
    }

    int year(int n, int s) {
        if (n < 0 || n > 60 || s < 1 || s > 20) {
            return NONE;
        }
        int good = 0;
        for (int k = 0; k < s; k++) {
            World w = world.copy();
            for (int i = 0; i < n; i++) {
                season(w, seed + k);
            }
            good += w.lying() == world.lying() ? 1 : 0;
        }
        return good;
    }

    // ---- which paving it was

    int tell(int cell, boolean across) {
        if (told.size() == 20 || !isCell(cell) || hole[cell]) {
            return NONE;
        }
        told.add(new int[] {cell, across ? 1 : 0});
        return told.size() - 1;
    }

    int forget() {
        int n = told.size();
        told.clear();
        return n;
    }

    private List<int[]> known(int k) {
        List<int[]> left = new ArrayList<>();
        for (int[] mates : pavings()) {
            boolean so = true;
            for (int i = 0; i < k; i++) {
                so &= isAcross(mates, told.get(i)[0]) == (told.get(i)[1] == 1);
            }
            if (so) {
                left.add(mates);
            }
        }
        return left;
    }

    int fit(int k, int what) {
        if (k < 0 || k > told.size() || what < 0 || what > 2) {
            return NONE;
        }
        List<int[]> left = known(k);
        if (what == 0) {
            return left.size();
        }
        return left.isEmpty() ? -2 : numberOf(left.get(what == 1 ? 0 : left.size() - 1));
    }

    int look(int k) {
        if (k < 0 || k > told.size()) {
            return NONE;
        }
        List<int[]> left = known(k);
        int which = -2;
        int least = Integer.MAX_VALUE;
        for (int c = 0; c < wide * high && !left.isEmpty(); c++) {
            if (!hole[c]) {
                int a = countAcross(left, c);
                int worst = Math.max(a, left.size() - a);
                if (worst < least) {
                    least = worst;
                    which = c;
                }
            }
        }
        return which;
    }

    // ---- held, gone on from, counted

    boolean hold(int slot) {
        if (slot < 0 || slot > 2) {
            return false;
        }
        slots[slot] = world.copy();
        return true;
    }

    boolean restore(int slot) {
        if (slot < 0 || slot > 2 || slots[slot] == null) {
            return false;
        }
        world = slots[slot].copy();
        past.clear();
        return true;
    }

    int count(int what) {
        int across = 0;
        int bits = 0;
        int asks = 0;
        int turned = 0;
        for (int i = 0; i < 18; i++) {
            Stone s = world.stones[i];
            if (s != null) {
                across += s.across ? 1 : 0;
                bits += 1 << i;
                asks += law("asks", world, i);
                turned += s.turned;
            }
        }
        int held = 0;
        for (World w : slots) {
            held += w == null ? 0 : 1;
        }
        int free = 0;
        for (int c = 0; c < wide * high; c++) {
            free += free(c) ? 1 : 0;
        }
        int[] all = {wide, high, holes(), world.lying(), across, world.season, world.paid, paved() ? 1 : 0,
            tape.length(), past.size(), told.size(), held, world.loosened, bits, free, asks, turned};
        return what < 0 || what >= all.length ? NONE : all[what];
    }
}
