/** Sentences on laws: how they reckon, what they look at, where they are held. */
final class LawSentences {
    /** The highest int, put together from INTS of four digits. */
    private static final String MOST = "(9999*9999*21+4790*9999+8416)";
    private static final String LEAST = "(0-" + MOST + "-1)";

    private LawSentences() {
    }

    static void tell(Sentences s) {
        s.terms(7);
        s.of("LAWS: the E of the first if that holds (one less than the other), else the last one;", LawSentences::theFirstThatHolds);
        s.of("ints of 32 bits that wrap,", LawSentences::intsWrap);
        s.of("/ rounded towards 0;", LawSentences::roundedTowardsNothing);
        s.of("a LAW in which something that is looked at is divided by 0 is 0.", LawSentences::dividedByNothing);
        s.of("Of a STONE: across: 1 ACROSS, 0 DOWN;", LawSentences::lawsSeeAcross);
        s.of("left, top: X, Y of the FIRST cell;", LawSentences::lawsSeeLeftAndTop);
        s.of("turned: how often it was TURNED since it was laid;", LawSentences::lawsSeeTurned);
        s.of("age: how many SEASONS it lies;", LawSentences::lawsSeeAge);
        s.of("season;", LawSentences::lawsSeeTheSeason);
        s.of("which: the COUPLE's number;", LawSentences::lawsSeeWhich);
        s.of("stones: how many lie;", LawSentences::lawsSeeStones);
        s.of("holes: how many there are.", LawSentences::lawsSeeHoles);
        s.of("ASKS, LAYS (as it lies, when it is laid, itself among stones), held to 0 .. 99;", LawSentences::heldTo99);
        s.of("LOOSENS, held to 0 .. 100.", LawSentences::heldTo100);
    }

    // The STONE of COUPLE 1 lies ACROSS at 1, 2, among 2 stones and 2 holes.
    private static CouplesPaving under(String law, String is) {
        return Checks.of("square 5 5; hole 4 4; hole 3 4; stone 4 0 1; stone 1 2 0; " + law + " = " + is + ";");
    }

    private static void asks(String law, int due) {
        Checks.due("ASKS = " + law, under("asks", law).stone(1, 4), due);
    }

    private static void allLaws(String law, int due) {
        asks(law, due);
        Checks.due("LOOSENS = " + law, under("loosens", law).stone(1, 5), due);
        CouplesPaving x = under("lays", law);
        x.lay(0, 0);
        Checks.due("LAYS = " + law, x.count(6), due);
    }

    private static void theFirstThatHolds() {
        allLaws("if 1 < 2 then 3 else 4", 3);
        allLaws("if 2 < 2 then 3 else 4", 4);
        allLaws("if 3 < 2 then 3 else 4", 4);
        asks("if 0 - 1 < 0 then 3 else 4", 3);
        asks("if 0 < 0 - 1 then 3 else 4", 4);
        asks("if " + LEAST + " < " + MOST + " then 3 else 4", 3);
        asks("if " + MOST + " < " + LEAST + " then 3 else 4", 4);
        asks("if 1 < 2 then 5 else if 1 < 2 then 6 else 7", 5);
        for (int holds = 1; holds <= 4; holds++) {
            StringBuilder law = new StringBuilder();
            for (int i = 1; i <= 4; i++) {
                law.append("if ").append(holds).append(" < ").append(i + 1).append(" then ").append(60 + i).append(" else ");
            }
            allLaws(law + "70", 60 + holds);
        }
        String none = "if 1 < 0 then 5 else ";
        for (int many = 0; many <= 4; many++) {
            allLaws(none.repeat(many) + "77", 77);
        }
        asks("if across < left + top then top else left", 2);
        asks("8 - 3 - 2 * 2 + 9 / 3", 4);
        asks("(8 - (3 - 2)) * 2", 14);
        asks("64 / 4 / 2 * 3", 24);
        asks("60 - 64 / 8 / 4", 58);
    }

    private static void intsWrap() {
        asks("if 0 < " + MOST + " then 1 else 2", 1);
        asks("if " + MOST + " + 1 < 0 then 1 else 2", 1);
        asks("if " + LEAST + " - 1 < 0 then 1 else 2", 2);
        asks(LEAST + " - 1 - " + MOST + " + 5", 5);
        asks(MOST + " * 2 + 9", 7);
        asks(LEAST + " * 2 + 9", 9);
        asks("if 0 - " + LEAST + " < 0 then 1 else 2", 1);
        asks("if " + LEAST + " / (0 - 1) < 0 then 1 else 2", 1);
        // 2199560022 is -2095407274, and 9999 times 9999 is 99980001.
        asks("50 + 9999 * 9999 * 22 / 9999 / 9999", 30);
        // 65536 times 65536 is 0, and 65537 times 65537 is 131073.
        asks("256 * 256 * 256 * 256 + 3", 3);
        asks("(256 * 256 + 1) * (256 * 256 + 1) - 256 * 512 + 6", 7);
        CouplesPaving x = under("loosens", MOST + " + 1");
        Checks.due("LOOSENS wraps", x.stone(1, 5), 0);
        CouplesPaving y = under("lays", LEAST + " - 1");
        y.lay(0, 0);
        Checks.due("LAYS wraps", y.count(6), 99);
    }

    private static void roundedTowardsNothing() {
        asks("7 / 2", 3);
        asks("50 + (0 - 7) / 2", 47);
        asks("50 + 7 / (0 - 2)", 47);
        asks("(0 - 7) / (0 - 2)", 3);
        asks("50 + (0 - 1) / 2", 50);
        asks("50 + 1 / (0 - 2)", 50);
        asks("50 + (0 - 6) / 2", 47);
        asks("0 / 5 + 4", 4);
        asks("4 / 5", 0);
        asks(MOST + " / " + MOST, 1);
        asks("3 + " + LEAST + " / " + MOST, 2);
        asks("3 + " + MOST + " / " + LEAST, 3);
    }

    private static void dividedByNothing() {
        allLaws("9 + 1 / 0", 0);
        allLaws("0 / 0 + 9", 0);
        asks("50 - 7 / (2 - top)", 0);
        asks("9 + 0 * (1 / 0)", 0);
        asks("9 + (1 - (2 / (1 - which)))", 0);
        asks("1 / (1 / 2) + 9", 0);
        // Looked at: the sides of each if up to the first that holds, and its E.
        allLaws("if 1 / 0 < 2 then 3 else 4", 0);
        allLaws("if 1 < 2 / 0 then 3 else 4", 0);
        allLaws("if 2 < 1 then 3 else if 1 / 0 < 2 then 4 else 5", 0);
        allLaws("if 1 < 2 then 1 / 0 + 3 else 4", 0);
        allLaws("if 2 < 1 then 3 else 1 / 0 + 4", 0);
        // Not looked at: the other E's, and the ifs behind.
        allLaws("if 1 < 2 then 3 else 1 / 0", 3);
        allLaws("if 2 < 1 then 1 / 0 else 4", 4);
        allLaws("if 1 < 2 then 3 else if 1 / 0 < 2 then 4 else 5", 3);
        allLaws("if 2 < 1 then 1 / 0 else if 2 < 1 then 1 / 0 else if 1 < 2 then 7 else 1 / 0", 7);
        // By one law of three the others are not touched.
        CouplesPaving x = Checks.of("stone 0 0 0; asks = 1 / 0; loosens = 5; lays = 6;");
        x.lay(2, 0);
        Checks.due("each by itself", x.stone(0, 4) * 10000 + x.stone(0, 5) * 100 + x.count(6), 506);
    }

    private static void lawsSeeAcross() {
        CouplesPaving x = Checks.of("stone 0 0 0; stone 3 2 1; asks = 5 + across;");
        Checks.due("ACROSS", x.stone(0, 4), 6);
        Checks.due("DOWN", x.stone(1, 4), 5);
        CouplesPaving y = Checks.of("square 2 2; stone 0 0 0; stone 0 1 0; asks = 5 + across;");
        y.turn(0);
        Checks.due("TURNED to DOWN", y.stone(0, 4), 5);
        y.turn(0);
        Checks.due("TURNED to ACROSS", y.stone(0, 4), 6);
    }

    private static void lawsSeeLeftAndTop() {
        CouplesPaving x = Checks.of("square 6 5; stone 0 0 0; stone 3 4 0; stone 5 3 1; stone 0 3 1; stone 2 1 1;"
            + " asks = left * 10 + top;");
        int[] due = {0, 34, 53, 3, 21};
        for (int i = 0; i < due.length; i++) {
            Checks.due("left and top of " + i, x.stone(i, 4), due[i]);
        }
        CouplesPaving y = Checks.of("square 5 6; stone 3 4 0; stone 3 5 0; asks = left * 10 + top;");
        Checks.due("the lower one", y.stone(1, 4), 35);
        y.turn(23);
        Checks.due("the lower one is right now", y.stone(1, 4), 44);
        Checks.due("the upper one is left now", y.stone(0, 4), 34);
    }

    private static void lawsSeeTurned() {
        CouplesPaving x = Checks.of("square 2 2; stone 0 0 0; stone 0 1 0; asks = turned;");
        Checks.due("never yet", x.stone(0, 4), 0);
        for (int i = 1; i <= 5; i++) {
            x.turn(0);
            Checks.due("turned", x.stone(0, 4) * 10 + x.stone(1, 4), 11 * i);
        }
        x.lift(0);
        x.lay(0, 1);
        Checks.due("since it was laid", x.stone(0, 4) * 10 + x.stone(1, 4), 5);
        x.turn(0);
        Checks.due("each by itself", x.stone(0, 4) * 10 + x.stone(1, 4), 16);
    }

    private static void lawsSeeAge() {
        CouplesPaving x = Checks.of("stone 0 0 0; asks = age;");
        Checks.due("at first", x.stone(0, 4), 0);
        x.seasons(1);
        x.lay(2, 0);
        Checks.due("a SEASON, none", x.stone(0, 4) * 10 + x.stone(1, 4), 10);
        x.seasons(7);
        Checks.due("8, 7", x.stone(0, 4) * 10 + x.stone(1, 4), 87);
        x.lift(0);
        x.lay(0, 0);
        Checks.due("laid anew", x.stone(0, 4), 0);
    }

    private static void lawsSeeTheSeason() {
        CouplesPaving x = Checks.of("stone 0 0 0; asks = season; loosens = season - 5; lays = season * 2;");
        Checks.due("at first", x.stone(0, 4), 0);
        x.seasons(7);
        Checks.due("ASKS", x.stone(0, 4), 7);
        Checks.due("LOOSENS", x.stone(0, 5), 2);
        x.lay(2, 0);
        Checks.due("LAYS", x.count(6), 14);
    }

    private static void lawsSeeWhich() {
        CouplesPaving x = Checks.of("square 6 6; asks = 2 * which; lays = which;");
        x.pave(0);
        for (int i = 0; i < 18; i++) {
            Checks.due("which of " + i, x.stone(i, 4), 2 * i);
        }
        x.lift(34);
        x.lift(10);
        x.lay(34, 0);
        Checks.due("laid as COUPLE 5", x.count(6), 5);
        Checks.due("which of it", x.stone(5, 4), 10);
    }

    private static void lawsSeeStones() {
        CouplesPaving x = Checks.of("square 6 6; asks = stones; loosens = if season < 1 then 0 else 100 - 5 * which; seed 3;");
        x.pave(0);
        Checks.due("18", x.stone(0, 4), 18);
        x.lift(0);
        Checks.due("17", x.stone(1, 4), 17);
        x.seasons(2);
        Checks.due("some loosened, some lie", x.count(12) > 0 && x.count(3) > 0, true);
        Checks.due("less those that loosened", x.stone(Integer.numberOfTrailingZeros(x.count(13)), 4), 17 - x.count(12));
    }

    private static void lawsSeeHoles() {
        Checks.due("none", Checks.of("stone 0 0 0; asks = 50 + holes;").stone(0, 4), 50);
        Checks.due("three", Checks.of("hole 3 3; hole 2 2; hole 1 1; stone 0 0 0; asks = holes;").stone(0, 4), 3);
        StringBuilder text = new StringBuilder("square 6 6; stone 0 5 0; asks = holes;");
        for (int i = 0; i < 12; i++) {
            text.append("hole ").append(i % 6).append(' ').append(i / 6).append(';');
        }
        Checks.due("twelve", Checks.of(text.toString()).stone(0, 4), 12);
    }

    private static void held(String law, int[] due, String[] values) {
        for (int i = 0; i < values.length; i++) {
            CouplesPaving x = under(law, values[i]);
            if (law.equals("lays")) {
                x.lay(0, 0);
            }
            int got = law.equals("lays") ? x.count(6) : x.stone(1, law.equals("asks") ? 4 : 5);
            Checks.due(law + " = " + values[i], got, due[i]);
        }
    }

    private static void heldTo99() {
        String[] values = {"0", "1", "98", "99", "100", "101", "9999", "0 - 1", "0 - 9999", MOST, LEAST};
        int[] due = {0, 1, 98, 99, 99, 99, 99, 0, 0, 99, 0};
        held("asks", due, values);
        held("lays", due, values);
        CouplesPaving all = Checks.of("square 2 2; lays = 100; asks = 100;");
        all.lay(0, 0);
        all.lay(2, 0);
        Checks.due("each is held, not all of them", all.count(6) * 1000 + all.count(15), 198198);
        CouplesPaving x = Checks.of("square 4 4; lays = 10 * stones + 40 * across + left; stone 0 0 0;");
        x.lay(5, 1);
        Checks.due("itself among stones, as it lies", x.count(6), 21);
        x.lay(2, 0);
        Checks.due("ACROSS", x.count(6), 21 + 72);
        x.seasons(3);
        CouplesPaving y = Checks.of("lays = 1 + season + 20 * turned + 20 * age;");
        y.seasons(4);
        y.lay(0, 0);
        Checks.due("when it is laid", y.count(6), 5);
    }

    private static void heldTo100() {
        held("loosens", new int[] {0, 1, 99, 100, 100, 100, 0, 0, 100, 0},
            new String[] {"0", "1", "99", "100", "101", "9999", "0 - 1", "0 - 9999", MOST, LEAST});
        CouplesPaving never = Checks.of("square 6 6; loosens = 0 - 50;");
        never.pave(0);
        never.seasons(60);
        Checks.due("held to 0: none is lifted", never.count(3), 18);
        CouplesPaving always = Checks.of("square 6 6; loosens = 150;");
        always.pave(0);
        always.seasons(1);
        Checks.due("held to 100: all are lifted", always.count(3), 0);
    }
}
