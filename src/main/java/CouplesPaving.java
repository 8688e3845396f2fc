import java.util.Arrays;

/**
 * A square paved by stones of two cells each, as ../shared/DOC.md promises it.
 *
 * All questions about whole pavings rest on one thought: a paving is known by its
 * rows' masks of cells that a stone from the row above reaches into, for what is
 * left of a row can be filled by stones across in one way at most. Counting, numbering
 * and choosing the best all go row by row over such masks.
 */
public final class CouplesPaving {
    public static final int NONE = -1;

    private static final int ABSENT = -2;
    private static final int NO_HILL = -100;
    private static final int NO_LOWEST = -100000;

    private static final int MOST_SIDE = 6;
    private static final int LEAST_SIDE = 2;
    private static final int USUAL_SIDE = 4;
    private static final int MOST_CELLS = MOST_SIDE * MOST_SIDE;
    private static final int MASKS = 1 << MOST_SIDE;
    private static final int LINES = MOST_SIDE + 1;
    private static final int MOST_COUPLES = 18;
    private static final int MOST_HOLES = 12;
    private static final int MOST_BYTES = 2000;
    private static final int FED_BYTES = 20;
    private static final int MOST_TOKENS = 400;
    private static final int MOST_IFS = 4;
    private static final int MOST_NESTED = 6;
    private static final int MOST_SEASONS = 60;
    private static final int MOST_SEED = 9999;
    private static final int MOST_SEEDS = 20;
    private static final int MOST_TOLD = 20;
    private static final int MOST_UNDONE = 40;
    private static final int SLOTS = 3;

    private final Tape tape;
    private final Reader reader;
    private Text text;
    private Text draft;
    private final State now;
    private final State later;
    private final Kept kept;
    private final Told told;
    private final Rows every;
    private final Rows some;
    private final Shares shares;
    private final Best best;
    private final int[] lineNow;
    private final int[] lineThere;

    public CouplesPaving() {
        tape = new Tape();
        text = new Text();
        draft = new Text();
        reader = new Reader(tape, draft);
        now = new State();
        later = new State();
        kept = new Kept();
        told = new Told();
        every = new Rows();
        some = new Rows();
        shares = new Shares();
        best = new Best();
        lineNow = new int[LINES];
        lineThere = new int[LINES];
        startOver();
    }

    public int feed(int a, int b, int c, int d, int e) {
        if (tape.length > MOST_BYTES - FED_BYTES) {
            return NONE;
        }
        tape.addFour(a);
        tape.addFour(b);
        tape.addFour(c);
        tape.addFour(d);
        tape.addFour(e);
        return tape.length;
    }

    public int back(int n) {
        if (n < 0 || n > tape.length) {
            return NONE;
        }
        tape.length -= n;
        return tape.length;
    }

    public int read() {
        int fault = reader.parse(draft);
        tape.length = 0;
        if (fault == 0) {
            Text old = text;
            text = draft;
            draft = old;
            startOver();
        }
        return fault;
    }

    public int place() {
        return reader.faultPlace;
    }

    public int cell(int cell, int what) {
        if (!text.hasCell(cell)) {
            return NONE;
        }
        int couple = now.on[cell];
        switch (what) {
            case 0:
                return text.hole[cell] ? 2 : couple == NONE ? 0 : 1;
            case 1:
                return couple == NONE ? ABSENT : now.otherCell(couple, cell);
            case 2:
                return couple == NONE ? ABSENT : couple;
            case 3:
                return text.isBlack(cell) ? 1 : 0;
            default:
                return NONE;
        }
    }

    public int stone(int couple, int what) {
        if (couple < 0 || couple >= MOST_COUPLES || what < 0 || what > 5) {
            return NONE;
        }
        if (!now.lies(couple)) {
            return ABSENT;
        }
        switch (what) {
            case 0:
                return now.first[couple];
            case 1:
                return now.flat[couple] ? 1 : 0;
            case 2:
                return now.turned[couple];
            case 3:
                return now.age[couple];
            case 4:
                return text.laws.held(Laws.ASKS, now, couple, text.holes);
            default:
                return text.laws.held(Laws.LOOSENS, now, couple, text.holes);
        }
    }

    public int lay(int cell, int way) {
        if (way != 0 && way != 1 || !isFree(cell)) {
            return NONE;
        }
        boolean flat = way == 0;
        if (flat ? !text.hasRight(cell) : !text.hasBelow(cell)) {
            return NONE;
        }
        int couple = now.leastCouple();
        if (couple == NONE || !isFree(flat ? cell + 1 : cell + text.wide)) {
            return NONE;
        }
        kept.keepForUndo(now);
        now.put(couple, cell, flat);
        now.paid += text.laws.held(Laws.LAYS, now, couple, text.holes);
        return couple;
    }

    public boolean lift(int cell) {
        if (!text.hasCell(cell) || now.on[cell] == NONE) {
            return false;
        }
        kept.keepForUndo(now);
        now.take(now.on[cell]);
        return true;
    }

    public int turn(int cell) {
        if (!canTurn(cell)) {
            return NONE;
        }
        kept.keepForUndo(now);
        int price = priceOfTurning(cell);
        now.paid += price;
        int leader = now.on[cell];
        int follower = now.on[cell + text.wide + 1];
        boolean wasFlat = now.flat[leader];
        now.turnTo(leader, cell, !wasFlat);
        now.turnTo(follower, wasFlat ? cell + 1 : cell + text.wide, !wasFlat);
        return price;
    }

    public boolean pave(int i) {
        if (i < 0 || i >= every.total()) {
            return false;
        }
        kept.keepForUndo(now);
        now.takeAll();
        every.lineAt(i, lineThere);
        int couple = 0;
        for (int cell = 0; cell < text.cells() && couple < MOST_COUPLES; cell++) {
            if (isFree(cell)) {
                now.put(couple, cell, !every.isDown(lineThere, cell));
                couple++;
            }
        }
        return true;
    }

    public int seasons(int n) {
        if (n < 0 || n > MOST_SEASONS) {
            return NONE;
        }
        if (n > 0) {
            kept.keepForUndo(now);
            passSeasons(now, n);
        }
        return now.season;
    }

    public boolean undo() {
        return kept.giveBack(now);
    }

    public int all() {
        return every.total();
    }

    public int rest() {
        countRest();
        return some.total();
    }

    public int across(int cell) {
        if (!text.isOpen(cell)) {
            return NONE;
        }
        countRest();
        int couple = now.on[cell];
        if (couple != NONE) {
            return now.flat[couple] ? some.total() : 0;
        }
        shares.share(some);
        return shares.lyingAcross(cell);
    }

    public int frozen(int cell) {
        if (cell != NONE && !text.hasCell(cell)) {
            return NONE;
        }
        countRest();
        shares.share(some);
        if (cell != NONE) {
            return frozenWith(cell);
        }
        int cells = 0;
        for (int c = 0; c < text.cells(); c++) {
            if (frozenWith(c) != ABSENT) {
                cells++;
            }
        }
        return cells;
    }

    public int more() {
        int black = 0;
        for (int c = 0; c < text.cells(); c++) {
            if (isFree(c)) {
                black += text.isBlack(c) ? 1 : -1;
            }
        }
        return black;
    }

    public int shortBy() {
        closeHolesAndStones();
        return best.fewestClosed(some);
    }

    public int rank() {
        if (!isPaved()) {
            return ABSENT;
        }
        traceNow();
        return every.numberOf(lineNow);
    }

    public int hill(int x, int y) {
        if (!hasHills() || x < 0 || x > text.wide || y < 0 || y > text.high) {
            return NO_HILL;
        }
        traceNow();
        return best.hillAt(every, x, y, lineNow[y]);
    }

    public int way(int i) {
        if (i < 0 || i >= every.total()) {
            return NONE;
        }
        if (!hasHills()) {
            return ABSENT;
        }
        traceNow();
        every.lineAt(i, lineThere);
        return best.apart(every, lineNow, lineThere) / 4;
    }

    public int farthest(int what) {
        if (what != 0 && what != 1) {
            return NONE;
        }
        if (!hasHills()) {
            return ABSENT;
        }
        traceNow();
        best.weighFar(every, lineNow);
        int apart = best.choose(every, lineThere);
        return what == 0 ? every.numberOf(lineThere) : apart / 4;
    }

    public int lowest(int what) {
        if (what != 0 && what != 1 || text.holes > 0 || every.total() == 0) {
            return NO_LOWEST;
        }
        best.weighLow(every);
        int depth = best.choose(every, lineThere);
        return what == 0 ? every.numberOf(lineThere) : -depth;
    }

    public int turns(int i) {
        if (i < NONE) {
            return NONE;
        }
        int found = 0;
        for (int c = 0; c < text.cells(); c++) {
            if (canTurn(c)) {
                if (found == i) {
                    return c;
                }
                found++;
            }
        }
        return i == NONE ? found : NONE;
    }

    public int cheapest(int what) {
        if (what != 0 && what != 1) {
            return NONE;
        }
        int cheap = ABSENT;
        int least = ABSENT;
        for (int c = 0; c < text.cells(); c++) {
            if (canTurn(c)) {
                int price = priceOfTurning(c);
                if (cheap == ABSENT || price < least) {
                    cheap = c;
                    least = price;
                }
            }
        }
        return what == 0 ? cheap : least;
    }

    public int widows(int cell, int other) {
        if (cell == other || !text.isOpen(cell) || !text.isOpen(other)) {
            return NONE;
        }
        some.begin(text);
        some.close(cell);
        some.close(other);
        some.countWays();
        return some.total();
    }

    public int then(int cell, int n) {
        if (cell != NONE && !text.hasCell(cell) || n < 0 || n > MOST_SEASONS) {
            return NONE;
        }
        later.copyOf(now);
        passSeasons(later, n);
        if (cell == NONE) {
            return later.stones;
        }
        return later.on[cell] == NONE ? 0 : 1;
    }

    public int year(int n, int s) {
        if (n < 0 || n > MOST_SEASONS || s < 1 || s > MOST_SEEDS) {
            return NONE;
        }
        later.copyOf(now);
        int broken = 0;
        for (int passed = 0; passed < n; passed++) {
            broken |= seedsThatLoosen(later, s);
            later.ageAll(0);
        }
        return s - Integer.bitCount(broken);
    }

    public int tell(int cell, boolean across) {
        if (!text.isOpen(cell)) {
            return NONE;
        }
        return told.note(cell, across);
    }

    public int forget() {
        int many = told.many;
        told.many = 0;
        return many;
    }

    public int fit(int k, int what) {
        if (k < 0 || k > told.many || what < 0 || what > 2) {
            return NONE;
        }
        countKnown(k);
        if (what == 0) {
            return some.total();
        }
        if (some.total() == 0) {
            return ABSENT;
        }
        some.lineAt(what == 1 ? 0 : some.total() - 1, lineThere);
        return every.numberOf(lineThere);
    }

    public int look(int k) {
        if (k < 0 || k > told.many) {
            return NONE;
        }
        countKnown(k);
        int total = some.total();
        if (total == 0) {
            return ABSENT;
        }
        shares.share(some);
        int chosen = ABSENT;
        int least = total + 1;
        for (int c = 0; c < text.cells(); c++) {
            if (text.isOpen(c)) {
                int flat = shares.lyingAcross(c);
                int worst = Math.max(flat, total - flat);
                if (worst < least) {
                    chosen = c;
                    least = worst;
                }
            }
        }
        return chosen;
    }

    public boolean hold(int slot) {
        return kept.putIntoSlot(slot, now);
    }

    public boolean restore(int slot) {
        return kept.takeFromSlot(slot, now);
    }

    public int count(int what) {
        switch (what) {
            case 0:
                return text.wide;
            case 1:
                return text.high;
            case 2:
                return text.holes;
            case 3:
                return now.stones;
            case 4:
                return now.flatStones();
            case 5:
                return now.season;
            case 6:
                return now.paid;
            case 7:
                return isPaved() ? 1 : 0;
            case 8:
                return tape.length;
            case 9:
                return kept.undoable;
            case 10:
                return told.many;
            case 11:
                return kept.slotsInUse();
            case 12:
                return now.loosened;
            case 13:
                return now.coupleBits();
            case 14:
                return freeCells();
            case 15:
                return asksOfAll();
            case 16:
                return now.turnedInAll();
            default:
                return NONE;
        }
    }

    private void startOver() {
        now.clear(text.wide);
        for (int i = 0; i < text.stones; i++) {
            now.put(i, text.wide * text.stoneY[i] + text.stoneX[i], text.stoneWay[i] == 0);
        }
        kept.clear();
        told.many = 0;
        every.begin(text);
        every.countWays();
    }

    private boolean isFree(int cell) {
        return text.isOpen(cell) && now.on[cell] == NONE;
    }

    private int freeCells() {
        return text.cells() - text.holes - 2 * now.stones;
    }

    private boolean isPaved() {
        return freeCells() == 0;
    }

    private boolean hasHills() {
        return text.holes == 0 && isPaved();
    }

    private boolean canTurn(int cell) {
        if (!text.hasCell(cell) || !text.hasRight(cell) || !text.hasBelow(cell)) {
            return false;
        }
        int leader = now.on[cell];
        int follower = now.on[cell + text.wide + 1];
        if (leader == NONE || follower == NONE || now.flat[leader] != now.flat[follower]) {
            return false;
        }
        int due = now.flat[leader] ? cell + text.wide : cell + 1;
        return now.first[leader] == cell && now.first[follower] == due;
    }

    private int priceOfTurning(int cell) {
        int leader = now.on[cell];
        int follower = now.on[cell + text.wide + 1];
        return text.laws.held(Laws.ASKS, now, leader, text.holes)
            + text.laws.held(Laws.ASKS, now, follower, text.holes);
    }

    private int asksOfAll() {
        int sum = 0;
        for (int c = 0; c < MOST_COUPLES; c++) {
            if (now.lies(c)) {
                sum += text.laws.held(Laws.ASKS, now, c, text.holes);
            }
        }
        return sum;
    }

    private void passSeasons(State state, int n) {
        for (int passed = 0; passed < n; passed++) {
            state.ageAll(couplesThatLoosen(state));
        }
    }

    private int couplesThatLoosen(State state) {
        int loose = 0;
        for (int c = 0; c < MOST_COUPLES; c++) {
            if (state.lies(c)) {
                int limit = text.laws.held(Laws.LOOSENS, state, c, text.holes);
                if (limit > 0 && lotOfHundred(text.seed, 32 * state.season + c) < limit) {
                    loose |= 1 << c;
                }
            }
        }
        return loose;
    }

    // As long as nothing is lifted, LOOSENS is the same for every seed: one look serves all of them.
    private int seedsThatLoosen(State state, int seeds) {
        int broken = 0;
        for (int c = 0; c < MOST_COUPLES; c++) {
            if (state.lies(c)) {
                int limit = text.laws.held(Laws.LOOSENS, state, c, text.holes);
                for (int s = 0; s < seeds && limit > 0; s++) {
                    if (lotOfHundred(text.seed + s, 32 * state.season + c) < limit) {
                        broken |= 1 << s;
                    }
                }
            }
        }
        return broken;
    }

    private static int lotOfHundred(int seed, int which) {
        return (mixed(mixed(seed, 169), which) >>> 1) % 100;
    }

    private static int mixed(int h, int with) {
        int m = (h ^ with) * 1103515245 + 12345;
        return m ^ m >>> 15;
    }

    private void closeHolesAndStones() {
        some.begin(text);
        for (int c = 0; c < text.cells(); c++) {
            if (now.on[c] != NONE) {
                some.close(c);
            }
        }
    }

    private void countRest() {
        closeHolesAndStones();
        some.countWays();
    }

    private void countKnown(int k) {
        some.begin(text);
        for (int i = 0; i < k && i < told.many; i++) {
            some.bind(told.cells[i], told.flat[i]);
        }
        some.countWays();
    }

    private int frozenWith(int cell) {
        if (!isFree(cell) || some.total() == 0) {
            return ABSENT;
        }
        int mate = shares.onlyMate(some, cell);
        return mate == NONE ? ABSENT : mate;
    }

    private void traceNow() {
        Arrays.fill(lineNow, 0);
        for (int c = 0; c < MOST_COUPLES; c++) {
            if (now.lies(c) && !now.flat[c]) {
                every.drawDown(lineNow, now.first[c]);
            }
        }
    }

    /** The bytes that wait to be read. */
    private static final class Tape {
        final byte[] bytes;
        int length;

        Tape() {
            bytes = new byte[MOST_BYTES];
            length = 0;
        }

        void addFour(int four) {
            for (int shift = 24; shift >= 0 && length < MOST_BYTES; shift -= 8) {
                bytes[length] = (byte) (four >>> shift);
                length++;
            }
        }

        int at(int i) {
            return i >= 0 && i < length ? bytes[i] & 255 : NONE;
        }
    }

    /** The tape cut into tokens, as many as a text may have and the one too many. */
    private static final class Tokens {
        static final int END = 0;
        static final int NO_TOKEN = 1;
        static final int NAME = 2;
        static final int INT = 3;
        static final int SIGN = 10;
        static final int SEMICOLON = 10;
        static final int EQUALS = 11;
        static final int PLUS = 12;
        static final int MINUS = 13;
        static final int TIMES = 14;
        static final int OVER = 15;
        static final int LESS = 16;
        static final int OPEN = 17;
        static final int CLOSE = 18;
        static final int WORD = 20;
        static final int SQUARE = 20;
        static final int HOLE = 21;
        static final int STONE = 22;
        static final int LAW = 23;
        static final int LAST_LAW = 25;
        static final int SEED = 26;
        static final int IF = 27;
        static final int THEN = 28;
        static final int ELSE = 29;
        static final int VAR = 30;
        static final int LAST_WORD = 38;

        private static final String SIGNS = ";=+-*/<()";
        // In the order of the kinds above, each filled up to the longest name's length.
        private static final String WORDS = "square  hole    stone   asks    loosens lays    seed    if      then    else    across  left    top     turned  age     season  which   stones  holes   ";
        private static final int MOST_LETTERS = 8;
        private static final int MOST_DIGITS = 4;
        private static final int MOST_CUT = MOST_TOKENS + 1;

        private final Tape tape;
        private final int[] kinds;
        private final int[] places;
        private final int[] numbers;
        private int next;

        Tokens(Tape tape) {
            this.tape = tape;
            kinds = new int[MOST_CUT];
            places = new int[MOST_CUT];
            numbers = new int[MOST_CUT];
        }

        int kindOf(int i) {
            return i >= 0 && i < MOST_CUT ? kinds[i] : END;
        }

        int placeOf(int i) {
            return i >= 0 && i < MOST_CUT ? places[i] : tape.length;
        }

        int numberOf(int i) {
            return i >= 0 && i < MOST_CUT ? numbers[i] : 0;
        }

        void cutAll() {
            next = 0;
            boolean ended = false;
            for (int i = 0; i < MOST_CUT && !ended; i++) {
                skipBlanks();
                places[i] = next;
                kinds[i] = cutOne(i);
                ended = kinds[i] == END;
            }
        }

        private void skipBlanks() {
            for (int n = 0; n < MOST_BYTES && isBlank(tape.at(next)); n++) {
                next++;
            }
        }

        private int cutOne(int i) {
            int sign = tape.at(next);
            if (sign == NONE) {
                return END;
            }
            if (isLetter(sign)) {
                return cutWord(next);
            }
            if (isDigit(sign)) {
                return cutNumber(i, next);
            }
            next++;
            int which = SIGNS.indexOf((char) sign);
            return which < 0 ? NO_TOKEN : SIGN + which;
        }

        private int cutWord(int from) {
            for (int n = 0; n < MOST_BYTES && isLetter(tape.at(next)); n++) {
                next++;
            }
            if (next - from > MOST_LETTERS) {
                return NO_TOKEN;
            }
            for (int kind = WORD; kind <= LAST_WORD; kind++) {
                if (isWord((kind - WORD) * MOST_LETTERS, from)) {
                    return kind;
                }
            }
            return NAME;
        }

        private boolean isWord(int start, int from) {
            for (int i = 0; i < MOST_LETTERS; i++) {
                int have = from + i < next ? tape.at(from + i) : ' ';
                if (WORDS.charAt(start + i) != have) {
                    return false;
                }
            }
            return true;
        }

        private int cutNumber(int i, int from) {
            int number = 0;
            for (int n = 0; n < MOST_BYTES && isDigit(tape.at(next)); n++) {
                number = number * 10 + tape.at(next) - '0';
                next++;
            }
            numbers[i] = number;
            return next - from > MOST_DIGITS ? NO_TOKEN : INT;
        }

        private static boolean isBlank(int sign) {
            return sign == 9 || sign == 10 || sign == 13 || sign == 32;
        }

        private static boolean isLetter(int sign) {
            return sign >= 'a' && sign <= 'z';
        }

        private static boolean isDigit(int sign) {
            return sign >= '0' && sign <= '9';
        }
    }

    /** What a text tells. */
    private static final class Text {
        int wide;
        int high;
        int seed;
        int holes;
        int stones;
        final int[] holeX;
        final int[] holeY;
        final int[] stoneX;
        final int[] stoneY;
        final int[] stoneWay;
        final boolean[] hole;
        private final boolean[] taken;
        final Laws laws;

        Text() {
            holeX = new int[MOST_HOLES];
            holeY = new int[MOST_HOLES];
            stoneX = new int[MOST_COUPLES];
            stoneY = new int[MOST_COUPLES];
            stoneWay = new int[MOST_COUPLES];
            hole = new boolean[MOST_CELLS];
            taken = new boolean[MOST_CELLS];
            laws = new Laws();
            clear();
        }

        void clear() {
            wide = USUAL_SIDE;
            high = USUAL_SIDE;
            seed = 0;
            holes = 0;
            stones = 0;
            for (int c = 0; c < MOST_CELLS; c++) {
                hole[c] = false;
                taken[c] = false;
            }
            laws.clear();
        }

        void addHole(int x, int y) {
            if (holes < MOST_HOLES) {
                holeX[holes] = x;
                holeY[holes] = y;
                holes++;
            }
        }

        void addStone(int x, int y, int way) {
            if (stones < MOST_COUPLES) {
                stoneX[stones] = x;
                stoneY[stones] = y;
                stoneWay[stones] = way;
                stones++;
            }
        }

        boolean fitsSquare() {
            for (int i = 0; i < holes; i++) {
                if (!mark(holeX[i], holeY[i])) {
                    return false;
                }
                hole[wide * holeY[i] + holeX[i]] = true;
            }
            for (int i = 0; i < stones; i++) {
                int right = stoneWay[i] == 0 ? 1 : 0;
                if (!mark(stoneX[i], stoneY[i]) || !mark(stoneX[i] + right, stoneY[i] + 1 - right)) {
                    return false;
                }
            }
            return true;
        }

        private boolean mark(int x, int y) {
            if (x < 0 || x >= wide || y < 0 || y >= high || taken[wide * y + x]) {
                return false;
            }
            taken[wide * y + x] = true;
            return true;
        }

        int cells() {
            return wide * high;
        }

        boolean hasCell(int cell) {
            return cell >= 0 && cell < wide * high;
        }

        boolean isOpen(int cell) {
            return hasCell(cell) && !hole[cell];
        }

        boolean hasRight(int cell) {
            return Rows.columnOf(cell, wide) + 1 < wide;
        }

        boolean hasBelow(int cell) {
            return Rows.rowOf(cell, wide) + 1 < high;
        }

        boolean isBlack(int cell) {
            return (Rows.rowOf(cell, wide) + Rows.columnOf(cell, wide)) % 2 == 0;
        }
    }

    /** The three laws, each as a row of steps for a pile of numbers. */
    private static final class Laws {
        static final int ASKS = 0;
        static final int LOOSENS = 1;
        static final int LAYS = 2;

        static final int NUMBER = 0;
        static final int VARIABLE = 1;
        static final int GO_UNLESS_LESS = 2;
        static final int ANSWER = 3;

        // A token makes one step at most; the laws that stand if none is told make four.
        private static final int MOST_STEPS = MOST_TOKENS + 4;
        // Six brackets deep, two numbers wait at each depth for a third, and one ahead of a '<'.
        private static final int MOST_PILED = 32;

        private final int[] step;
        private final int[] with;
        private final int[] start;
        private final int[] pile;
        private int steps;

        Laws() {
            step = new int[MOST_STEPS];
            with = new int[MOST_STEPS];
            start = new int[3];
            pile = new int[MOST_PILED];
        }

        void clear() {
            steps = 0;
            begin(ASKS);
            add(NUMBER, 1);
            add(ANSWER, 0);
            begin(LOOSENS);
            begin(LAYS);
            add(NUMBER, 0);
            add(ANSWER, 0);
        }

        void begin(int law) {
            start[law] = steps;
        }

        int add(int kind, int value) {
            if (steps >= MOST_STEPS) {
                return NONE;
            }
            step[steps] = kind;
            with[steps] = value;
            steps++;
            return steps - 1;
        }

        void aimHere(int at) {
            if (at >= 0 && at < steps) {
                with[at] = steps;
            }
        }

        int held(int law, State state, int couple, int holes) {
            int most = law == LOOSENS ? 100 : 99;
            return Math.max(0, Math.min(most, worth(law, state, couple, holes)));
        }

        private int worth(int law, State state, int couple, int holes) {
            int at = start[law];
            int top = 0;
            for (int n = 0; n < MOST_STEPS && at >= 0 && at < steps; n++) {
                int kind = step[at];
                int value = with[at];
                at++;
                if (kind == ANSWER) {
                    return top > 0 ? pile[top - 1] : 0;
                }
                if (kind == NUMBER || kind == VARIABLE) {
                    if (top >= MOST_PILED) {
                        return 0;
                    }
                    pile[top] = kind == NUMBER ? value : variable(value, state, couple, holes);
                    top++;
                    continue;
                }
                if (top < 2) {
                    return 0;
                }
                top -= 2;
                int left = pile[top];
                int right = pile[top + 1];
                if (kind == GO_UNLESS_LESS) {
                    at = left < right ? at : value;
                } else if (kind == Tokens.OVER && right == 0) {
                    return 0;
                } else {
                    pile[top] = joined(kind, left, right);
                    top++;
                }
            }
            return 0;
        }

        private static int joined(int kind, int left, int right) {
            switch (kind) {
                case Tokens.PLUS:
                    return left + right;
                case Tokens.MINUS:
                    return left - right;
                case Tokens.TIMES:
                    return left * right;
                default:
                    return right == 0 ? 0 : left / right;
            }
        }

        private static int variable(int which, State state, int couple, int holes) {
            switch (which) {
                case 0:
                    return state.flat[couple] ? 1 : 0;
                case 1:
                    return Rows.columnOf(state.first[couple], state.wide);
                case 2:
                    return Rows.rowOf(state.first[couple], state.wide);
                case 3:
                    return state.turned[couple];
                case 4:
                    return state.age[couple];
                case 5:
                    return state.season;
                case 6:
                    return couple;
                case 7:
                    return state.stones;
                default:
                    return holes;
            }
        }
    }

    /** Reads the tape by the grammar; each of its steps tells whether it found no fault. */
    private static final class Reader {
        private static final int SYNTAX = 1;
        private static final int ROOM = 2;
        private static final int WRONG = 5;
        private static final int UNFIT = 6;

        private final Tape tape;
        private final Tokens tokens;
        private Text text;
        private int at;
        private int kind;
        private int place;
        private int wrongPlace;
        private int fault;
        int faultPlace;

        Reader(Tape tape, Text text) {
            this.tape = tape;
            this.text = text;
            tokens = new Tokens(tape);
            faultPlace = NONE;
        }

        int parse(Text into) {
            text = into;
            text.clear();
            wrongPlace = NONE;
            fault = 0;
            faultPlace = NONE;
            tokens.cutAll();
            at = 0;
            kind = tokens.kindOf(at);
            place = tokens.placeOf(at);
            for (int n = 0; n <= MOST_TOKENS && kind != Tokens.END && fault == 0; n++) {
                takeTell();
            }
            if (fault == 0 && wrongPlace != NONE) {
                refuse(WRONG, wrongPlace);
            }
            if (fault == 0 && !text.fitsSquare()) {
                refuse(UNFIT, tape.length);
            }
            return fault;
        }

        private boolean refuse(int why, int where) {
            fault = why;
            faultPlace = where;
            return false;
        }

        // A token that no text goes on with is refused ahead of its room, so all ask for the kind first.
        private boolean accept(boolean hasRoom) {
            if (!hasRoom || at >= MOST_TOKENS) {
                return refuse(ROOM, place);
            }
            at++;
            kind = tokens.kindOf(at);
            place = tokens.placeOf(at);
            return true;
        }

        private boolean acceptOf(int due) {
            return kind == due ? accept(true) : refuse(SYNTAX, place);
        }

        private boolean takeTell() {
            int tell = kind;
            if (tell == Tokens.SQUARE) {
                return accept(true) && takeSquare() && acceptOf(Tokens.SEMICOLON);
            }
            if (tell == Tokens.HOLE) {
                return accept(text.holes < MOST_HOLES) && takeHole() && acceptOf(Tokens.SEMICOLON);
            }
            if (tell == Tokens.STONE) {
                return accept(text.stones < MOST_COUPLES) && takeStone() && acceptOf(Tokens.SEMICOLON);
            }
            if (tell >= Tokens.LAW && tell <= Tokens.LAST_LAW) {
                return accept(true) && takeLaw(tell - Tokens.LAW) && acceptOf(Tokens.SEMICOLON);
            }
            if (tell == Tokens.SEED) {
                return accept(true) && takeSeed() && acceptOf(Tokens.SEMICOLON);
            }
            return refuse(SYNTAX, place);
        }

        // A wrong number is a fault only of a text without other faults, so reading goes on behind it.
        private boolean takeNumber(int least, int most) {
            int number = tokens.numberOf(at);
            if (kind == Tokens.INT && wrongPlace == NONE && (number < least || number > most)) {
                wrongPlace = place;
            }
            return acceptOf(Tokens.INT);
        }

        private int numberBefore(int back) {
            return tokens.numberOf(at - back);
        }

        private boolean takeSquare() {
            if (!takeNumber(LEAST_SIDE, MOST_SIDE) || !takeNumber(LEAST_SIDE, MOST_SIDE)) {
                return false;
            }
            text.wide = numberBefore(2);
            text.high = numberBefore(1);
            return true;
        }

        private boolean takeHole() {
            if (!takeNumber(0, MOST_SIDE - 1) || !takeNumber(0, MOST_SIDE - 1)) {
                return false;
            }
            text.addHole(numberBefore(2), numberBefore(1));
            return true;
        }

        private boolean takeStone() {
            if (!takeNumber(0, MOST_SIDE - 1) || !takeNumber(0, MOST_SIDE - 1) || !takeNumber(0, 1)) {
                return false;
            }
            text.addStone(numberBefore(3), numberBefore(2), numberBefore(1));
            return true;
        }

        private boolean takeSeed() {
            if (!takeNumber(0, MOST_SEED)) {
                return false;
            }
            text.seed = numberBefore(1);
            return true;
        }

        private boolean takeLaw(int law) {
            if (!acceptOf(Tokens.EQUALS)) {
                return false;
            }
            text.laws.begin(law);
            for (int ifs = 0; kind == Tokens.IF && ifs <= MOST_IFS; ifs++) {
                if (!accept(ifs < MOST_IFS) || !takeSum(0) || !acceptOf(Tokens.LESS)
                        || !takeSum(0) || !acceptOf(Tokens.THEN)) {
                    return false;
                }
                int leap = text.laws.add(Laws.GO_UNLESS_LESS, NONE);
                if (!takeSum(0) || !acceptOf(Tokens.ELSE)) {
                    return false;
                }
                text.laws.add(Laws.ANSWER, 0);
                text.laws.aimHere(leap);
            }
            if (!takeSum(0)) {
                return false;
            }
            text.laws.add(Laws.ANSWER, 0);
            return true;
        }

        private boolean takeSum(int nested) {
            boolean sound = takePart(nested);
            for (int n = 0; n <= MOST_TOKENS && sound && (kind == Tokens.PLUS || kind == Tokens.MINUS); n++) {
                int sign = kind;
                sound = accept(true) && takePart(nested);
                text.laws.add(sign, 0);
            }
            return sound;
        }

        private boolean takePart(int nested) {
            boolean sound = takeUnit(nested);
            for (int n = 0; n <= MOST_TOKENS && sound && (kind == Tokens.TIMES || kind == Tokens.OVER); n++) {
                int sign = kind;
                sound = accept(true) && takeUnit(nested);
                text.laws.add(sign, 0);
            }
            return sound;
        }

        private boolean takeUnit(int nested) {
            if (kind == Tokens.INT) {
                text.laws.add(Laws.NUMBER, tokens.numberOf(at));
                return accept(true);
            }
            if (kind >= Tokens.VAR && kind <= Tokens.LAST_WORD) {
                text.laws.add(Laws.VARIABLE, kind - Tokens.VAR);
                return accept(true);
            }
            if (kind == Tokens.OPEN) {
                return accept(nested < MOST_NESTED) && takeSum(nested + 1) && acceptOf(Tokens.CLOSE);
            }
            return refuse(SYNTAX, place);
        }
    }

    /** All that goes on: the stones that lie, the season, what was paid and loosened. */
    private static final class State {
        final int[] first;
        final boolean[] flat;
        final int[] turned;
        final int[] age;
        final int[] on;
        int wide;
        int stones;
        int season;
        int paid;
        int loosened;

        State() {
            first = new int[MOST_COUPLES];
            flat = new boolean[MOST_COUPLES];
            turned = new int[MOST_COUPLES];
            age = new int[MOST_COUPLES];
            on = new int[MOST_CELLS];
            clear(USUAL_SIDE);
        }

        void clear(int width) {
            takeAll();
            wide = width;
            season = 0;
            paid = 0;
            loosened = 0;
        }

        void takeAll() {
            Arrays.fill(first, NONE);
            Arrays.fill(on, NONE);
            stones = 0;
        }

        void copyOf(State other) {
            System.arraycopy(other.first, 0, first, 0, MOST_COUPLES);
            System.arraycopy(other.turned, 0, turned, 0, MOST_COUPLES);
            System.arraycopy(other.age, 0, age, 0, MOST_COUPLES);
            System.arraycopy(other.on, 0, on, 0, MOST_CELLS);
            for (int c = 0; c < MOST_COUPLES; c++) {
                flat[c] = other.flat[c];
            }
            wide = other.wide;
            stones = other.stones;
            season = other.season;
            paid = other.paid;
            loosened = other.loosened;
        }

        boolean lies(int couple) {
            return first[couple] != NONE;
        }

        int leastCouple() {
            for (int c = 0; c < MOST_COUPLES; c++) {
                if (!lies(c)) {
                    return c;
                }
            }
            return NONE;
        }

        private int second(int couple) {
            return first[couple] + (flat[couple] ? 1 : wide);
        }

        int otherCell(int couple, int cell) {
            return cell == first[couple] ? second(couple) : first[couple];
        }

        private void occupy(int couple, int cell, boolean isFlat) {
            first[couple] = cell;
            flat[couple] = isFlat;
            on[cell] = couple;
            on[second(couple)] = couple;
        }

        void put(int couple, int cell, boolean isFlat) {
            occupy(couple, cell, isFlat);
            turned[couple] = 0;
            age[couple] = 0;
            stones++;
        }

        void turnTo(int couple, int cell, boolean isFlat) {
            occupy(couple, cell, isFlat);
            turned[couple]++;
        }

        void take(int couple) {
            on[first[couple]] = NONE;
            on[second(couple)] = NONE;
            first[couple] = NONE;
            stones--;
        }

        void ageAll(int loose) {
            for (int c = 0; c < MOST_COUPLES; c++) {
                if (lies(c)) {
                    if ((loose >> c & 1) != 0) {
                        take(c);
                        loosened++;
                    } else {
                        age[c]++;
                    }
                }
            }
            season++;
        }

        int flatStones() {
            int many = 0;
            for (int c = 0; c < MOST_COUPLES; c++) {
                if (lies(c) && flat[c]) {
                    many++;
                }
            }
            return many;
        }

        int coupleBits() {
            int bits = 0;
            for (int c = 0; c < MOST_COUPLES; c++) {
                if (lies(c)) {
                    bits |= 1 << c;
                }
            }
            return bits;
        }

        int turnedInAll() {
            int sum = 0;
            for (int c = 0; c < MOST_COUPLES; c++) {
                if (lies(c)) {
                    sum += turned[c];
                }
            }
            return sum;
        }
    }

    /** What can be gone back to: the latest states by undo, and the slots. */
    private static final class Kept {
        private final State[] past;
        private final State[] slot;
        private final boolean[] held;
        private int newest;
        int undoable;

        Kept() {
            past = new State[MOST_UNDONE];
            for (int i = 0; i < MOST_UNDONE; i++) {
                past[i] = new State();
            }
            slot = new State[SLOTS];
            for (int i = 0; i < SLOTS; i++) {
                slot[i] = new State();
            }
            held = new boolean[SLOTS];
        }

        void clear() {
            undoable = 0;
            for (int i = 0; i < SLOTS; i++) {
                held[i] = false;
            }
        }

        // The states lie in a ring, so that the oldest is the one that is written over.
        void keepForUndo(State state) {
            newest = (newest + 1) % MOST_UNDONE;
            past[newest].copyOf(state);
            undoable = Math.min(undoable + 1, MOST_UNDONE);
        }

        boolean giveBack(State state) {
            if (undoable == 0) {
                return false;
            }
            state.copyOf(past[newest]);
            newest = (newest + MOST_UNDONE - 1) % MOST_UNDONE;
            undoable--;
            return true;
        }

        boolean putIntoSlot(int i, State state) {
            if (i < 0 || i >= SLOTS) {
                return false;
            }
            slot[i].copyOf(state);
            held[i] = true;
            return true;
        }

        boolean takeFromSlot(int i, State state) {
            if (i < 0 || i >= SLOTS || !held[i]) {
                return false;
            }
            state.copyOf(slot[i]);
            undoable = 0;
            return true;
        }

        int slotsInUse() {
            int many = 0;
            for (int i = 0; i < SLOTS; i++) {
                if (held[i]) {
                    many++;
                }
            }
            return many;
        }
    }

    /** How cells of an unknown paving lay, as it was told. */
    private static final class Told {
        final int[] cells;
        final boolean[] flat;
        int many;

        Told() {
            cells = new int[MOST_TOLD];
            flat = new boolean[MOST_TOLD];
        }

        int note(int cell, boolean isFlat) {
            if (many >= MOST_TOLD) {
                return NONE;
            }
            cells[many] = cell;
            flat[many] = isFlat;
            many++;
            return many - 1;
        }
    }

    /**
     * The pavings of what is open, row by row. A line is a paving's masks: line[y] has the
     * cells of row y that stones DOWN from the row above reach into. The left cell has the
     * highest bit, so that smaller masks belong to pavings with smaller numbers.
     */
    private static final class Rows {
        private final int[] closed;
        private final int[] onlyFlat;
        private final int[] onlyDown;
        private final int[] oddRuns;
        final int[][] ways;
        int wide;
        int high;
        int full;

        Rows() {
            closed = new int[LINES];
            onlyFlat = new int[LINES];
            onlyDown = new int[LINES];
            ways = new int[LINES][MASKS];
            oddRuns = new int[MASKS];
            for (int mask = 0; mask < MASKS; mask++) {
                oddRuns[mask] = countOddRuns(mask);
            }
        }

        private static int countOddRuns(int mask) {
            int odd = 0;
            int run = 0;
            for (int i = 0; i <= MOST_SIDE; i++) {
                if ((mask >> i & 1) != 0) {
                    run++;
                } else {
                    odd += run & 1;
                    run = 0;
                }
            }
            return odd;
        }

        void begin(Text text) {
            wide = text.wide;
            high = text.high;
            full = (1 << wide) - 1;
            for (int y = 0; y < LINES; y++) {
                closed[y] = y < high ? 0 : full;
                onlyFlat[y] = 0;
                onlyDown[y] = 0;
            }
            for (int c = 0; c < text.cells(); c++) {
                if (text.hole[c]) {
                    close(c);
                }
            }
        }

        static int rowOf(int cell, int wide) {
            return wide == 0 ? 0 : cell / wide;
        }

        static int columnOf(int cell, int wide) {
            return wide == 0 ? 0 : cell % wide;
        }

        int bit(int x) {
            return 1 << wide - 1 - x;
        }

        boolean isDown(int[] line, int cell) {
            return (line[rowOf(cell, wide) + 1] & bit(columnOf(cell, wide))) != 0;
        }

        void drawDown(int[] line, int cell) {
            line[rowOf(cell, wide) + 1] |= bit(columnOf(cell, wide));
        }

        void close(int cell) {
            closed[rowOf(cell, wide)] |= bit(columnOf(cell, wide));
        }

        void bind(int cell, boolean flat) {
            int y = rowOf(cell, wide);
            int mask = bit(columnOf(cell, wide));
            if (flat) {
                onlyFlat[y] |= mask;
            } else {
                onlyDown[y] |= mask;
            }
        }

        boolean isClosed(int x, int y) {
            return (closed[y] & bit(x)) != 0;
        }

        /** The cells of row y on which a stone DOWN may begin when stones from above reach into the mask. */
        int roomBelow(int y, int into) {
            return full & ~(closed[y] | closed[y + 1] | onlyFlat[y] | onlyFlat[y + 1] | into);
        }

        boolean canReach(int y, int into) {
            int room = y == 0 ? 0 : roomBelow(y - 1, 0);
            return (into & ~room) == 0;
        }

        /** The next larger part of the room; NONE behind the last one. */
        static int partAfter(int part, int room) {
            int next = part - room & room;
            return next == 0 ? NONE : next;
        }

        boolean fills(int y, int into, int outOf) {
            return (onlyDown[y] & ~(into | outOf)) == 0 && lonelyCells(y, into, outOf) == 0;
        }

        /** How many cells stay empty at least when all others of row y not in the masks lie ACROSS. */
        int lonelyCells(int y, int into, int outOf) {
            return oddRuns[full & ~(closed[y] | into | outOf)];
        }

        void countWays() {
            for (int mask = 0; mask <= full; mask++) {
                ways[high][mask] = mask == 0 ? 1 : 0;
            }
            for (int y = high - 1; y >= 0; y--) {
                for (int into = 0; into <= full; into++) {
                    ways[y][into] = canReach(y, into) ? waysOn(y, into) : 0;
                }
            }
        }

        private int waysOn(int y, int into) {
            int room = roomBelow(y, into);
            int sum = 0;
            for (int part = 0, n = 0; part != NONE && n < MASKS; part = partAfter(part, room), n++) {
                if (ways[y + 1][part] > 0 && fills(y, into, part)) {
                    sum += ways[y + 1][part];
                }
            }
            return sum;
        }

        int total() {
            return ways[0][0];
        }

        /** The line of the i-th paving of those that are open here. */
        void lineAt(int i, int[] line) {
            int left = i;
            Arrays.fill(line, 0);
            for (int y = 0; y < high; y++) {
                int room = roomBelow(y, line[y]);
                for (int part = 0, n = 0; part != NONE && n < MASKS; part = partAfter(part, room), n++) {
                    int here = fills(y, line[y], part) ? ways[y + 1][part] : 0;
                    if (left < here) {
                        line[y + 1] = part;
                        break;
                    }
                    left -= here;
                }
            }
        }

        int numberOf(int[] line) {
            int ahead = 0;
            for (int y = 0; y < high; y++) {
                int room = roomBelow(y, line[y]);
                for (int part = 0, n = 0; part != NONE && part < line[y + 1] && n < MASKS;
                        part = partAfter(part, room), n++) {
                    if (fills(y, line[y], part)) {
                        ahead += ways[y + 1][part];
                    }
                }
            }
            return ahead;
        }
    }

    /** In how many of a Rows' pavings each couple of cells has a stone. */
    private static final class Shares {
        private final int[][] reach;
        private final int[] downFrom;
        private final int[] flatFrom;
        private int wide;

        Shares() {
            reach = new int[LINES][MASKS];
            downFrom = new int[MOST_CELLS];
            flatFrom = new int[MOST_CELLS];
        }

        void share(Rows rows) {
            wide = rows.wide;
            countReach(rows);
            for (int y = 0; y < rows.high; y++) {
                for (int x = 0; x < wide; x++) {
                    downFrom[y * wide + x] = passing(rows, y + 1, rows.bit(x));
                }
            }
            for (int y = 0; y < rows.high; y++) {
                shareRow(rows, y);
            }
        }

        private void countReach(Rows rows) {
            for (int y = 0; y <= rows.high; y++) {
                Arrays.fill(reach[y], 0);
            }
            reach[0][0] = 1;
            for (int y = 0; y < rows.high; y++) {
                for (int into = 0; into <= rows.full; into++) {
                    if (reach[y][into] > 0) {
                        reachOn(rows, y, into);
                    }
                }
            }
        }

        private void reachOn(Rows rows, int y, int into) {
            int room = rows.roomBelow(y, into);
            for (int part = 0, n = 0; part != NONE && n < MASKS; part = Rows.partAfter(part, room), n++) {
                if (rows.ways[y + 1][part] > 0 && rows.fills(y, into, part)) {
                    reach[y + 1][part] += reach[y][into];
                }
            }
        }

        private int passing(Rows rows, int y, int bit) {
            int sum = 0;
            for (int mask = 0; mask <= rows.full; mask++) {
                if ((mask & bit) != 0) {
                    sum += reach[y][mask] * rows.ways[y][mask];
                }
            }
            return sum;
        }

        // Every open cell has one stone in each paving, so what lies neither DOWN nor with the left cell goes right.
        private void shareRow(Rows rows, int y) {
            int withLeft = 0;
            for (int x = 0; x < wide; x++) {
                int cell = y * wide + x;
                int fromAbove = y > 0 ? downFrom[cell - wide] : 0;
                boolean open = !rows.isClosed(x, y);
                flatFrom[cell] = open ? rows.total() - fromAbove - downFrom[cell] - withLeft : 0;
                withLeft = flatFrom[cell];
            }
        }

        private int flatWithLeft(int cell) {
            return Rows.columnOf(cell, wide) > 0 ? flatFrom[cell - 1] : 0;
        }

        int lyingAcross(int cell) {
            return flatFrom[cell] + flatWithLeft(cell);
        }

        /** The cell with which this one has a stone in all pavings, or NONE. */
        int onlyMate(Rows rows, int cell) {
            int total = rows.total();
            if (flatFrom[cell] == total) {
                return cell + 1;
            }
            if (flatWithLeft(cell) == total) {
                return cell - 1;
            }
            if (downFrom[cell] == total) {
                return cell + wide;
            }
            return cell >= wide && downFrom[cell - wide] == total ? cell - wide : NONE;
        }
    }

    /** Hills, and what is most or least of all pavings. */
    private static final class Best {
        // Far below what any paving can be worth, and far above the least int.
        private static final int NOWHERE = -1000000;

        private final int[][] worth;
        private final int[][] gain;
        private final int[] hills;
        private final int[] hillsThere;

        Best() {
            worth = new int[LINES][MASKS];
            gain = new int[LINES][MASKS];
            hills = new int[LINES];
            hillsThere = new int[LINES];
        }

        // The left edge is never crossed, so the hills of a row of corners hang on its mask alone.
        private static void climb(Rows rows, int y, int mask, int[] row) {
            int hill = -(y & 1);
            row[0] = hill;
            for (int x = 0; x < rows.wide; x++) {
                int step = (mask & rows.bit(x)) != 0 ? -3 : 1;
                hill += (x + y) % 2 == 0 ? step : -step;
                row[x + 1] = hill;
            }
        }

        int hillAt(Rows rows, int x, int y, int mask) {
            climb(rows, y, mask, hills);
            return hills[x];
        }

        private int apartInRow(Rows rows, int y, int mask) {
            climb(rows, y, mask, hills);
            int sum = 0;
            for (int x = 0; x <= rows.wide; x++) {
                sum += Math.abs(hills[x] - hillsThere[x]);
            }
            return sum;
        }

        int apart(Rows rows, int[] line, int[] lineThere) {
            int sum = 0;
            for (int y = 0; y <= rows.high; y++) {
                climb(rows, y, lineThere[y], hillsThere);
                sum += apartInRow(rows, y, line[y]);
            }
            return sum;
        }

        void weighFar(Rows rows, int[] line) {
            for (int y = 0; y <= rows.high; y++) {
                climb(rows, y, line[y], hillsThere);
                for (int mask = 0; mask <= rows.full; mask++) {
                    worth[y][mask] = apartInRow(rows, y, mask);
                }
            }
        }

        void weighLow(Rows rows) {
            for (int y = 0; y <= rows.high; y++) {
                for (int mask = 0; mask <= rows.full; mask++) {
                    climb(rows, y, mask, hills);
                    int sum = 0;
                    for (int x = 0; x <= rows.wide; x++) {
                        sum += hills[x];
                    }
                    worth[y][mask] = -sum;
                }
            }
        }

        /** Of all pavings the one worth most, the first of alike ones: its line, and how much. */
        int choose(Rows rows, int[] line) {
            Arrays.fill(gain[rows.high], NOWHERE);
            gain[rows.high][0] = worth[rows.high][0];
            for (int y = rows.high - 1; y >= 0; y--) {
                for (int into = 0; into <= rows.full; into++) {
                    int part = rows.ways[y][into] > 0 ? bestPart(rows, y, into) : NONE;
                    gain[y][into] = part == NONE ? NOWHERE : worth[y][into] + gain[y + 1][part];
                }
            }
            Arrays.fill(line, 0);
            for (int y = 0; y < rows.high; y++) {
                line[y + 1] = Math.max(0, bestPart(rows, y, line[y]));
            }
            return gain[0][0];
        }

        private int bestPart(Rows rows, int y, int into) {
            int room = rows.roomBelow(y, into);
            int chosen = NONE;
            int most = NOWHERE;
            for (int part = 0, n = 0; part != NONE && n < MASKS; part = Rows.partAfter(part, room), n++) {
                if (gain[y + 1][part] > most && rows.fills(y, into, part)) {
                    chosen = part;
                    most = gain[y + 1][part];
                }
            }
            return chosen;
        }

        int fewestClosed(Rows rows) {
            Arrays.fill(gain[rows.high], 0);
            for (int y = rows.high - 1; y >= 0; y--) {
                for (int into = 0; into <= rows.full; into++) {
                    gain[y][into] = rows.canReach(y, into) ? fewestClosedOn(rows, y, into) : 0;
                }
            }
            return gain[0][0];
        }

        private int fewestClosedOn(Rows rows, int y, int into) {
            int room = rows.roomBelow(y, into);
            int least = MOST_CELLS;
            for (int part = 0, n = 0; part != NONE && n < MASKS; part = Rows.partAfter(part, room), n++) {
                least = Math.min(least, rows.lonelyCells(y, into, part) + gain[y + 1][part]);
            }
            return least;
        }
    }
}
