/** Promises 12, 28 and 29: seasons go by, what would be in some, and the chances of a year by seeds. */
public final class SeasonsTest {
    // Reckoned apart from the program: LOT 100 of seed 7, by season (rows) and couple.
    private static final int[][] LOTS_OF_7 = {
        {4, 33, 84, 16, 23, 50, 13, 47},
        {90, 11, 70, 98, 17, 71, 6, 13},
        {83, 73, 40, 3, 35, 38, 93, 82}};

    private SeasonsTest() {
    }

    public static void main(String[] args) {
        wrongNumbers();
        lotsDecide();
        allAsItBegan();
        seasonsPass();
        thenForetells();
        yearCountsSeeds();
        Checks.finish("SeasonsTest");
    }

    private static void wrongNumbers() {
        CouplesPaving x = Checks.of("stone 0 0 0; hole 3 3;");
        Checks.due("seasons(-1)", x.seasons(-1), -1);
        Checks.due("seasons(61)", x.seasons(61), -1);
        Checks.due("then(0, -1)", x.then(0, -1), -1);
        Checks.due("then(0, 61)", x.then(0, 61), -1);
        Checks.due("then(16, 0)", x.then(16, 0), -1);
        Checks.due("then(-2, 0)", x.then(-2, 0), -1);
        Checks.due("then of a hole", x.then(15, 0), 0);
        Checks.due("year(-1, 1)", x.year(-1, 1), -1);
        Checks.due("year(61, 1)", x.year(61, 1), -1);
        Checks.due("year(0, 0)", x.year(0, 0), -1);
        Checks.due("year(0, 21)", x.year(0, 21), -1);
        Checks.due("nothing happened", x.count(5) + x.count(9), 0);
        Checks.due("seasons(0)", x.seasons(0), 0);
        Checks.due("that is no thing done", x.count(9), 0);
        Checks.due("seasons(60)", x.seasons(60), 60);
        Checks.due("seasons(60) again", x.seasons(60), 120);
        Checks.due("two things done", x.count(9), 2);
        Checks.due("it lies since", x.stone(0, 3), 120);
    }

    private static void lotsDecide() {
        for (int season = 0; season < 3; season++) {
            for (int limit = 0; limit <= 100; limit += 5) {
                String law = "loosens = if season < " + season + " then 0 else " + limit + ";";
                CouplesPaving x = Checks.of("seed 7;" + law);
                x.pave(0);
                x.seasons(season);
                x.seasons(1);
                int bits = 0;
                for (int c = 0; c < 8; c++) {
                    bits |= LOTS_OF_7[season][c] < limit ? 0 : 1 << c;
                }
                Checks.due("couples left of season " + season + " by " + limit, x.count(13), bits);
                Checks.due("loosened", x.count(12), 8 - Integer.bitCount(bits));
            }
        }
        CouplesPaving x = Checks.of("seed 7; loosens = 5;");
        x.pave(0);
        x.seasons(1);
        Checks.due("a lot just below", x.count(13), 254);
        CouplesPaving y = Checks.of("seed 7; loosens = 4;");
        y.pave(0);
        y.seasons(1);
        Checks.due("a lot just as much", y.count(13), 255);
    }

    private static void allAsItBegan() {
        // Both loosen only while two lie: in one season neither waits for the other.
        CouplesPaving x = Checks.of("stone 0 0 0; stone 0 1 0; stone 0 2 0; loosens = if 2 < stones then 100 - which / 2 * 100 else 0;");
        x.seasons(1);
        Checks.due("both are lifted at once", x.count(13), 4);
        x.seasons(1);
        Checks.due("one stays", x.count(13), 4);
        Checks.due("its age", x.stone(2, 3), 2);
    }

    private static void seasonsPass() {
        CouplesPaving x = Checks.of("stone 0 0 0; loosens = if age < 3 then 0 else 100;");
        x.seasons(2);
        x.lay(2, 0);
        Checks.due("season 3", x.seasons(1), 3);
        Checks.due("both lie", x.count(3), 2);
        Checks.due("ages", x.stone(0, 3) * 10 + x.stone(1, 3), 31);
        Checks.due("season 4", x.seasons(1), 4);
        Checks.due("the old one is lifted", x.count(13), 2);
        Checks.due("the season's lifting costs nothing", x.count(6), 0);
        Checks.due("season 9", x.seasons(5), 9);
        Checks.due("the other is lifted", x.count(12), 2);
        x.lay(0, 0);
        Checks.due("laid anew it is young", x.stone(0, 3), 0);
    }

    private static void thenForetells() {
        CouplesPaving x = Checks.of("seed 7; loosens = 20;");
        x.pave(0);
        Checks.due("in 0 seasons", x.then(-1, 0), 8);
        Checks.due("in 1 season", x.then(-1, 1), 5);
        Checks.due("in 2 seasons", x.then(-1, 2), 2);
        Checks.due("cell 0 in 1 season", x.then(0, 1), 0);
        Checks.due("cell 1 in 1 season", x.then(1, 1), 0);
        Checks.due("cell 2 in 1 season", x.then(2, 1), 1);
        Checks.due("cell 3 in 2 seasons", x.then(3, 2), 0);
        Checks.due("nothing happened", x.count(3) * 100 + x.count(5) * 10 + x.count(9), 801);
        x.seasons(2);
        Checks.due("so it comes", x.count(13), 4 + 32);
        Checks.due("of an empty square", new CouplesPaving().then(-1, 60), 0);
    }

    private static void yearCountsSeeds() {
        CouplesPaving x = Checks.of("seed 9999; stone 0 0 0; loosens = 30;");
        // Reckoned apart from the program.
        Checks.due("20 seeds, 2 seasons", x.year(2, 20), 9);
        Checks.due("1 seed, 2 seasons", x.year(2, 1), 1);
        Checks.due("2 seeds, 2 seasons", x.year(2, 2), 1);
        Checks.due("3 seeds, 1 season", x.year(1, 3), 2);
        Checks.due("no season", x.year(0, 20), 20);
        Checks.due("nothing happened", x.count(3) * 100 + x.count(5) * 10 + x.count(9), 100);
        Checks.due("nothing lies", new CouplesPaving().year(60, 20), 20);
        CouplesPaving y = Checks.of("stone 0 0 0; stone 2 0 0; loosens = if 5 < age then 100 else 0;");
        Checks.due("they grow old", y.year(6, 20), 20);
        Checks.due("too old", y.year(7, 20), 0);
    }
}
