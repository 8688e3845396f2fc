/** Sentences on texts: the terms of part I, and promises 1 to 5. */
final class TextSentences {
    private TextSentences() {
    }

    static void tell(Sentences s) {
        s.opening(36);
        s.of("An object is used for at most 512 calls after it has been made", TextSentences::theLastCallOfAll);
        tellTokens(s);
        tellGrammar(s);
        tellFaults(s);
        s.promise(1);
        s.of("A SQUARE of 4 by 4, no HOLES, no STONES.", TextSentences::aNewObject);
        s.promise(2);
        s.of("Twenty bytes, the highest of a first, come behind the tape: how many it has.", TextSentences::twentyBytes);
        s.of("NONE, and nothing comes, if it would have more than 2,000.", TextSentences::theTapeIsFull);
        s.promise(3);
        s.of("The last n bytes of the tape go: how many it has.", TextSentences::theLastBytesGo);
        s.of("NONE, and nothing goes, if it has not so many, or n is below 0.", TextSentences::notSoManyBytes);
        s.promise(4);
        s.of("The tape, which is empty then, is read: 0, or the number of its FAULT.", TextSentences::theTapeIsEmptyThen);
        s.promise(5);
        s.of("The byte of the latest read()'s FAULT; NONE without.", TextSentences::thePlaceOfTheLatest);
    }

    private static void tellTokens(Sentences s) {
        s.terms(4);
        s.of("A TEXT has 2,000 bytes at most.", TextSentences::theLongestText);
        s.of("TOKENS, the longest that can be, with blanks (9, 10, 13, 32) between or not", TextSentences::blanksOrNot);
        s.of("NAMES (letters a .. z, 8 at most, none of the words in quotes)", TextSentences::names);
        s.of("INTS (1 to 4 digits)", TextSentences::ints);
        s.of("SIGNS ; = + - * / < ( ) . A longer one, all else, is no TOKEN.", TextSentences::everyByte);
    }

    private static void tellGrammar(Sentences s) {
        s.terms(4);
        s.of("text: {TELL}.", TextSentences::theEmptyText);
        s.of("TELL: 'square' INT INT ';' | 'hole' INT INT ';' | 'stone' INT INT INT ';' |"
            + " ('asks' | 'loosens' | 'lays') LAW ';' | 'seed' INT ';'.", TextSentences::tellsCutShort);
        s.of("LAW: '=' {'if' E '<' E 'then' E 'else'} E.", TextSentences::lawsCutShort);
        s.of("E: PART {('+' | '-') PART}. PART: UNIT {('*' | '/') UNIT}. UNIT: INT | VAR | '(' E ')'.",
            TextSentences::sumsCutShort);
        s.of("VAR: 'across' | 'left' | 'top' | 'turned' | 'age' | 'season' | 'which' | 'stones' | 'holes'.",
            TextSentences::wordsThatAreNoVar);
        s.of("SQUARE: how WIDE, how HIGH 2 .. 6 each (4, 4; the last one).", TextSentences::sidesOfSquares);
        s.of("HOLES, 12 at most (X 0 .. 5, Y 0 .. 5).", TextSentences::mostHoles);
        s.of("STONES, 18 at most (X, Y 0 .. 5 of the LEFT or TOP cell, 0 ACROSS: that and the one right of it, 1 DOWN:"
            + " that and the one below): laid at first, in order.", TextSentences::mostStones);
        s.of("LAWS: ASKS (1), LOOSENS (0), LAYS (0), if not told; the last one.", TextSentences::lawsNotTold);
        s.of("SEED 0 .. 9999 (0): the last one.", TextSentences::seeds);
    }

    private static void tellFaults(Sentences s) {
        s.terms(4);
        s.of("2 ROOM: a 401st TOKEN;", TextSentences::the401stToken);
        s.of("one more of a sort than told (at its first TOKEN);", TextSentences::oneMoreOfASort);
        s.of("a 5th if of a LAW (at it);", TextSentences::theFifthIf);
        s.of("a 7th ( within one another (at it).", TextSentences::theSeventhBracket);
        s.of("A text with a FAULT changes nothing but the tape;", TextSentences::aFaultChangesNothing);
        s.of("else it is in place of the one ahead: season 0, nothing paid; nothing can be undone, nothing is TOLD,"
            + " SLOTS hold nothing.", TextSentences::inPlaceOfTheOneAhead);
        s.of("else it is in place of the one ahead:", TextSentences::oneTextBehindAnother);
        s.terms(5);
        s.of("FAULTS of a text, the first by its place (a byte; the text's end: its length),", TextSentences::theFirstFault);
        s.of("of one place the least:", TextSentences::theLeastOfOnePlace);
        s.of("1 SYNTAX: a TOKEN, or what is none, with which no text goes on.", TextSentences::noTextGoesOn);
        s.of("If there is none, likewise: 5 WRONG (at the INT): a number not as told above.", TextSentences::wrongNumbers);
        s.of("6 SQUARE (at the text's end): a HOLE beyond the SQUARE, one told twice, a STONE with a cell beyond it,"
            + " in a HOLE, on another STONE.", TextSentences::beyondTheSquare);
    }

    private static void theLastCallOfAll() {
        CouplesPaving x = new CouplesPaving();
        for (int i = 0; i < 255; i++) {
            Checks.due("lay, call " + (2 * i + 1), x.lay(0, 0), 0);
            Checks.due("lift, call " + (2 * i + 2), x.lift(1), true);
        }
        Checks.due("count(9), call 511", x.count(9), 40);
        Checks.due("lay, call 512", x.lay(0, 0), 0);
        CouplesPaving old = new CouplesPaving();
        old.lay(0, 0);
        for (int i = 1; i <= 510; i++) {
            Checks.due("seasons(60), call " + (i + 1), old.seasons(60), 60 * i);
        }
        Checks.due("the age, call 512", old.stone(0, 3), 30600);
    }

    // ---- tokens

    private static void theLongestText() {
        String middle = " ".repeat(2000 - 16);
        CouplesPaving x = Checks.of("seed 1;" + middle + "hole 0 0;");
        Checks.due("the last of 2000 bytes was read", x.cell(0, 0), 2);
        Checks.faulty(" ".repeat(1999) + "?", 1, 1999);
        Checks.faulty(" ".repeat(1994) + "seed 1", 1, 2000);
        Checks.faulty(" ".repeat(1991) + "hole 5 5;", 6, 2000);
        Checks.faulty(" ".repeat(1991) + "hole 0 6;", 5, 1998);
        Checks.sound(" ".repeat(2000));
    }

    private static void blanksOrNot() {
        Checks.sound("square3 2;hole0 0;asks=if which<1then 2else 3*(left+1)/2-top;stone1 0 1;seed7;");
        Checks.sound("\t\n\r square\t3\n2\r;\t\r\n  hole  0\r\n0 ; ");
        Checks.sound("asks=1\t+\n2\r* 3;");
        // The longest that can be: 33 is one INT, 'stones' and 'holes' are no 'stone', 'hole' with an s behind.
        Checks.faulty("square 33;", 1, 9);
        Checks.faulty("square 3 3 3;", 1, 11);
        Checks.faulty("stones 0 0 0;", 1, 0);
        Checks.faulty("holes 0 0;", 1, 0);
        Checks.faulty("squarehole 0 0;", 1, 0);
        Checks.faulty("asks = which1;", 1, 12);
        Checks.faulty("asks = lefttop;", 1, 7);
        Checks.sound("asks = stones+holes;");
    }

    private static void names() {
        Checks.faulty("a", 1, 0);
        Checks.faulty("zzzzzzzz", 1, 0);
        Checks.faulty("aaaaaaaaa", 1, 0);
        Checks.faulty("squaresquare 4 4;", 1, 0);
        Checks.faulty("a".repeat(2000), 1, 0);
        Checks.faulty("seed 1;" + "z".repeat(9), 1, 7);
        Checks.faulty("asks = " + "holes".repeat(2) + ";", 1, 7);
        String[] words = {"square", "hole", "stone", "asks", "loosens", "lays", "seed"};
        String[] vars = {"across", "left", "top", "turned", "age", "season", "which", "stones", "holes"};
        for (int i = 0; i < words.length + vars.length; i++) {
            String word = i < words.length ? words[i] : vars[i - words.length];
            String ahead = i < words.length ? "" : "asks = ";
            for (int c = 0; c < word.length(); c++) {
                String other = word.substring(0, c) + (char) (word.charAt(c) ^ 1) + word.substring(c + 1);
                Checks.faulty(ahead + other + " ;", 1, ahead.length());
                String less = word.substring(0, c) + word.substring(c + 1);
                Checks.faulty(ahead + less + " ;", 1, ahead.length());
            }
            Checks.faulty(ahead + word + "q;", 1, ahead.length());
        }
        String[] aheadOf = {"asks = ", "asks = if 1 < 2 ", "asks = if 1 < 2 then 3 "};
        String[][] others = {{"hf", "ig", "iff", "i"}, {"uhen", "thee", "hen", "thenn"}, {"flse", "elsf", "lse", "elsee"}};
        for (int i = 0; i < 3; i++) {
            for (String other : others[i]) {
                Checks.faulty(aheadOf[i] + other + " 1;", 1, aheadOf[i].length());
            }
        }
        // What is beside a .. z is no letter: the word ahead of it ends there.
        Checks.faulty("asks`", 1, 4);
        Checks.faulty("asks{", 1, 4);
        Checks.faulty("asksA", 1, 4);
        Checks.faulty("asksZ", 1, 4);
        Checks.faulty("asksa", 1, 0);
        Checks.faulty("asksz", 1, 0);
    }

    private static void ints() {
        CouplesPaving x = Checks.of("square 3 0002; asks = 0099; stone 0 0 0000;");
        Checks.due("0002 is 2", x.count(1), 2);
        Checks.due("0099 is 99", x.stone(0, 4), 99);
        Checks.sound("seed 9999;");
        Checks.faulty("square 00003 2;", 1, 7);
        Checks.faulty("seed 10000;", 1, 5);
        Checks.faulty("seed 00000;", 1, 5);
        // 4294967300 would be 4 in 32 bits that wrap.
        Checks.faulty("square 4294967300 4;", 1, 7);
        Checks.faulty("square 4 " + "0".repeat(400) + "4;", 1, 9);
        Checks.faulty("asks = 12345;", 1, 7);
        Checks.faulty("seed 1:", 1, 6);
        Checks.faulty("seed 1/", 1, 6);
        Checks.faulty("seed ;", 1, 5);
    }

    private static void everyByte() {
        for (int b = 0; b < 256; b++) {
            boolean blank = b == 9 || b == 10 || b == 13 || b == 32;
            if (blank) {
                Checks.sound("seed 1;" + (char) b);
            } else {
                Checks.faulty("seed 1;" + (char) b, 1, 7);
            }
            String law = "asks = 1" + (char) b + "(2);";
            if (b == '+' || b == '-' || b == '*' || b == '/') {
                Checks.sound(law);
            } else {
                boolean goesOn = blank || b == ';' || b >= '0' && b <= '9';
                Checks.faulty(law, 1, goesOn ? 9 : 8);
            }
        }
    }

    // ---- the grammar and its numbers

    private static void theEmptyText() {
        CouplesPaving x = Checks.of("square 2 3; hole 0 0;");
        Checks.due("read of the empty tape", x.read(), 0);
        Checks.due("no place", x.place(), -1);
        Checks.due("WIDE is 4 again", x.count(0), 4);
        Checks.due("HIGH is 4 again", x.count(1), 4);
        Checks.due("no HOLES", x.count(2), 0);
        Checks.sound(" ");
        Checks.faulty(";", 1, 0);
    }

    // Each tell, cut behind each of its tokens, ends too early; with one INT more it goes on too long.
    private static void tellsCutShort() {
        String[] tells = {"square 4 4 ;", "hole 0 0 ;", "stone 0 0 0 ;", "asks = 1 ;", "loosens = 1 ;", "lays = 1 ;", "seed 1 ;"};
        for (String tell : tells) {
            Checks.sound(tell);
            for (int i = 1; i < tell.length(); i++) {
                if (tell.charAt(i) == ' ') {
                    Checks.faulty(tell.substring(0, i), 1, i);
                    Checks.faulty(tell.substring(0, i) + " ?", 1, i + 1);
                }
            }
            int end = tell.length() - 1;
            Checks.faulty(tell.substring(0, end) + "1;", 1, end);
        }
    }

    private static void lawsCutShort() {
        Checks.faulty("asks ;", 1, 5);
        Checks.faulty("asks = ;", 1, 7);
        Checks.faulty("asks = = 1;", 1, 7);
        String law = "asks = if 1 < 2 then 3 else ";
        Checks.sound(law + "4;");
        for (String word : new String[] {"if ", "1 ", "< ", "2 ", "then ", "3 ", "else "}) {
            int behind = law.indexOf(word) + word.length();
            Checks.faulty(law.substring(0, behind) + ";", 1, behind);
        }
        Checks.faulty("asks = if 1 < 2 then if", 1, 21);
        Checks.faulty("asks = if 1 < 2 < 3 then 1 else 2;", 1, 16);
        Checks.faulty("asks = else 1;", 1, 7);
        Checks.faulty("asks = (if 1 < 2 then 3 else 4);", 1, 8);
    }

    private static void sumsCutShort() {
        Checks.sound("asks = (1);");
        Checks.faulty("asks = -1;", 1, 7);
        Checks.faulty("asks = +1;", 1, 7);
        Checks.faulty("asks = *1;", 1, 7);
        Checks.faulty("asks = 1+;", 1, 9);
        Checks.faulty("asks = 1*;", 1, 9);
        Checks.faulty("asks = 1+*2;", 1, 9);
        Checks.faulty("asks = 1--2;", 1, 9);
        Checks.faulty("asks = ();", 1, 8);
        Checks.faulty("asks = (1;", 1, 9);
        Checks.faulty("asks = 1);", 1, 8);
        Checks.faulty("asks = (1<2);", 1, 9);
        Checks.faulty("asks = 1 2;", 1, 9);
        Checks.faulty("asks = (1)(2);", 1, 10);
    }

    private static void wordsThatAreNoVar() {
        for (String var : new String[] {"across", "left", "top", "turned", "age", "season", "which", "stones", "holes"}) {
            Checks.sound("asks = " + var + ";");
            Checks.faulty(var + " 1;", 1, 0);
        }
        for (String word : new String[] {"square", "hole", "stone", "asks", "loosens", "lays", "seed", "then", "else", "right"}) {
            Checks.faulty("asks = " + word + ";", 1, 7);
        }
    }

    private static void sidesOfSquares() {
        for (int side = 0; side <= 9; side++) {
            String wide = "square " + side + " 4;";
            String high = "square 4 " + side + ";";
            if (side < 2 || side > 6) {
                Checks.faulty(wide, 5, 7);
                Checks.faulty(high, 5, 9);
            } else {
                Checks.due("WIDE of " + wide, Checks.of(wide).count(0), side);
                Checks.due("HIGH of " + high, Checks.of(high).count(1), side);
            }
        }
        Checks.faulty("square 9999 4;", 5, 7);
        CouplesPaving x = Checks.of("seed 1;");
        Checks.due("not told: WIDE", x.count(0), 4);
        Checks.due("not told: HIGH", x.count(1), 4);
        CouplesPaving y = Checks.of("square 2 6; square 6 2; square 3 5;");
        Checks.due("the last one: WIDE", y.count(0), 3);
        Checks.due("the last one: HIGH", y.count(1), 5);
    }

    private static String holes(int many) {
        StringBuilder text = new StringBuilder("square 6 6;");
        for (int i = 0; i < many; i++) {
            text.append("hole ").append(i % 6).append(' ').append(i / 6).append(';');
        }
        return text.toString();
    }

    private static String stones(int many) {
        StringBuilder text = new StringBuilder("square 6 6;");
        for (int i = 0; i < many; i++) {
            text.append("stone ").append(i % 3 * 2).append(' ').append(i / 3).append(" 0;");
        }
        return text.toString();
    }

    private static void mostHoles() {
        Checks.due("12 HOLES", Checks.of(holes(12)).count(2), 12);
        Checks.faulty(holes(13), 2, holes(12).length());
        CouplesPaving x = Checks.of("square 6 6; hole 5 5; hole 0 0;");
        Checks.due("the last cell", x.cell(35, 0), 2);
        Checks.due("the first cell", x.cell(0, 0), 2);
        for (int wrong : new int[] {6, 7, 10, 9999}) {
            Checks.faulty("square 6 6; hole " + wrong + " 5;", 5, 17);
            Checks.faulty("square 6 6; hole 5 " + wrong + ";", 5, 19);
        }
    }

    private static void mostStones() {
        CouplesPaving all = Checks.of(stones(18));
        Checks.due("18 STONES", all.count(3), 18);
        Checks.due("a PAVING lies", all.count(7), 1);
        for (int c = 0; c < 36; c++) {
            Checks.due("in order: on " + c, all.cell(c, 2), c / 2);
        }
        Checks.faulty(stones(18) + "stone 0 0 0;", 2, stones(18).length());
        CouplesPaving x = Checks.of("square 6 6; stone 4 5 0; stone 5 3 1;");
        Checks.due("ACROSS: the one right of it", x.cell(34, 1), 35);
        Checks.due("DOWN: the one below", x.cell(23, 1), 29);
        Checks.due("laid in order", x.cell(35, 2) * 10 + x.cell(29, 2), 1);
        for (int wrong : new int[] {6, 9999}) {
            Checks.faulty("square 6 6; stone " + wrong + " 0 1;", 5, 18);
            Checks.faulty("square 6 6; stone 0 " + wrong + " 0;", 5, 20);
        }
        for (int wrong : new int[] {2, 3, 9999}) {
            Checks.faulty("square 6 6; stone 0 0 " + wrong + ";", 5, 22);
        }
    }

    private static void lawsNotTold() {
        CouplesPaving x = Checks.of("stone 0 0 0;");
        Checks.due("ASKS is 1", x.stone(0, 4), 1);
        Checks.due("LOOSENS is 0", x.stone(0, 5), 0);
        x.lay(2, 0);
        Checks.due("LAYS is 0", x.count(6), 0);
        CouplesPaving y = Checks.of("asks = 2; loosens = 3; lays = 4; lays = 7; loosens = 6; asks = 5; stone 0 0 0;");
        Checks.due("the last ASKS", y.stone(0, 4), 5);
        Checks.due("the last LOOSENS", y.stone(0, 5), 6);
        y.lay(2, 0);
        Checks.due("the last LAYS", y.count(6), 7);
        CouplesPaving z = Checks.of("loosens = 3; stone 0 0 0;");
        Checks.due("only one told: ASKS", z.stone(0, 4), 1);
        z.lay(2, 0);
        Checks.due("only one told: LAYS", z.count(6), 0);
    }

    // LOT 100 in season 0, couple 0: 85 by the seed 0, 96 by 9999, 4 by 7.
    private static void seeds() {
        String[] texts = {"", "seed 0;", "seed 7; seed 0;", "seed 9999;", "seed 0; seed 9999;", "seed 7;"};
        int[] lots = {85, 85, 85, 96, 96, 4};
        for (int i = 0; i < texts.length; i++) {
            CouplesPaving stays = Checks.of(texts[i] + "stone 0 0 0; loosens = " + lots[i] + ";");
            Checks.due(texts[i] + " its LOT is no less", stays.then(-1, 1), 1);
            CouplesPaving goes = Checks.of(texts[i] + "stone 0 0 0; loosens = " + (lots[i] + 1) + ";");
            Checks.due(texts[i] + " its LOT is less", goes.then(-1, 1), 0);
        }
        Checks.faulty("seed 10000;", 1, 5);
    }

    // ---- faults

    private static void the401stToken() {
        // 132 times three, and four more, are 400.
        String most = "seed 1;".repeat(132) + "asks=1;";
        Checks.sound(most);
        Checks.sound(most + "  \n");
        Checks.faulty(most + " seed 1;", 2, most.length() + 1);
        Checks.faulty(most + "square 4 4;", 2, most.length());
        // The last token of a tell may be the one too many, as may any other.
        String less = "seed 1;".repeat(133);
        Checks.faulty(less + "seed 1;", 2, less.length() + 5);
        Checks.faulty(less + "seed", 1, less.length() + 4);
        String law = "seed 1;".repeat(132) + "asks=12";
        Checks.faulty(law + "+3;", 2, law.length() + 1);
        String bracket = "seed 1;".repeat(132) + "asks=(";
        Checks.faulty(bracket + "(1));", 2, bracket.length() + 1);
        String semicolon = "seed 1;".repeat(131) + "asks = 1 + 2 * 3";
        Checks.faulty(semicolon + " ;", 2, semicolon.length() + 1);
        the401stOfEachTell();
        theLongestLaw();
    }

    /** A sound text of just so many tokens, 12 at least. */
    private static String tokens(int many) {
        int fours = many % 3;
        return "seed 1;".repeat((many - 4 * fours) / 3) + "asks=1;".repeat(fours);
    }

    // Each token of each tell is the 401st once; ahead of it, where the text ends, there is no ROOM's fault.
    private static void the401stOfEachTell() {
        String[] tells = {"square 4 4 ;", "hole 0 0 ;", "stone 0 0 0 ;", "asks = 1 ;", "loosens = which ;", "seed 1 ;",
            "lays = if ( 1 ) < 2 then 3 * 4 else 5 - ( age / 6 ) ;"};
        for (String tell : tells) {
            String[] words = tell.split(" ");
            int at = 0;
            for (int i = 0; i < words.length; i++) {
                String ahead = tokens(400 - i);
                Checks.faulty(ahead + tell, 2, ahead.length() + at);
                if (i > 0) {
                    String cut = ahead + tell.substring(0, at);
                    Checks.faulty(cut, 1, cut.length());
                    Checks.faulty(cut + "? ;", 1, cut.length());
                }
                at += words[i].length() + 1;
            }
            Checks.sound(tokens(400 - words.length) + tell);
        }
    }

    // Of 400 tokens 199 are numbers: all are looked at.
    private static void theLongestLaw() {
        for (String law : new String[] {"asks", "loosens", "lays"}) {
            CouplesPaving x = Checks.of(law + "=" + "3-3+".repeat(99) + "37;");
            x.lay(0, 0);
            Checks.due("the longest law: " + law, law.equals("lays") ? x.count(6) : x.stone(0, law.equals("asks") ? 4 : 5), 37);
        }
    }

    private static void oneMoreOfASort() {
        String holes = holes(12);
        Checks.faulty(holes + "seed 1;  hole 0 5;", 2, holes.length() + 9);
        Checks.faulty(holes + "hole ?", 2, holes.length());
        Checks.faulty(holes + "hole", 2, holes.length());
        Checks.faulty(holes + "hole 9 9;", 2, holes.length());
        String stones = stones(18);
        Checks.faulty(stones + " stone 9 9 9;", 2, stones.length() + 1);
        Checks.faulty(stones + "stone", 2, stones.length());
        // Each sort has a room of its own, and what is told again and again has no bound but the tokens'.
        StringBuilder both = new StringBuilder(holes);
        for (int i = 0; i < 12; i++) {
            both.append("stone ").append(i % 3 * 2).append(' ').append(2 + i / 3).append(" 0;");
        }
        Checks.sound(both.toString());
        Checks.sound("square 2 2;".repeat(60) + "asks=1;".repeat(20) + "seed 1;".repeat(20));
    }

    private static void theFifthIf() {
        String four = "asks = " + "if 1<2 then 3 else ".repeat(4);
        Checks.sound(four + "5;");
        Checks.faulty(four + "if 1<2 then 3 else 5;", 2, four.length());
        Checks.faulty(four + " if", 2, four.length() + 1);
        Checks.faulty(four + "if ?", 2, four.length());
        Checks.sound(four + "5; loosens" + four.substring(4) + "5; lays" + four.substring(4) + "5;" + four + "6;");
        Checks.faulty(four + "5; lays = 1; " + four + "if", 2, 2 * four.length() + 13);
    }

    private static void theSeventhBracket() {
        String six = "lays=" + "(".repeat(6);
        Checks.sound(six + "1" + ")".repeat(6) + ";");
        Checks.faulty(six + "(1" + ")".repeat(7) + ";", 2, 11);
        Checks.faulty(six + " (", 2, 12);
        Checks.faulty(six + "1+2*(", 2, 15);
        Checks.sound(six + "1)*(2" + ")".repeat(6) + "-" + "(".repeat(6) + "1" + ")".repeat(6) + ";");
        Checks.sound("lays=" + "(1)+".repeat(20) + "(1);");
        String one = "(".repeat(6) + "1" + ")".repeat(6);
        String[] parts = {"asks = if ", " < ", " then ", " else if 1 < ", " then 1 else ", ";"};
        StringBuilder all = new StringBuilder();
        for (int i = 0; i < parts.length - 1; i++) {
            all.append(parts[i]);
            Checks.faulty(all + "(" + one, 2, all.length() + 6);
            Checks.faulty(all + "1 * (1 - " + one, 2, all.length() + 9 + 5);
            all.append(one);
        }
        Checks.sound(all + ";");
        String inIf = "asks=if " + "(".repeat(6) + "1" + ")".repeat(6) + "<";
        Checks.faulty(inIf + "(".repeat(7), 2, inIf.length() + 6);
    }

    private static void theFirstFault() {
        Checks.faulty("? seed", 1, 0);
        Checks.faulty("seed ? ?", 1, 5);
        Checks.faulty("seed", 1, 4);
        Checks.faulty("seed 1   ", 1, 9);
        String thirteen = holes(13);
        Checks.faulty(thirteen + "?", 2, holes(12).length());
        Checks.faulty("?" + thirteen, 1, 0);
        Checks.faulty("lays=" + "(".repeat(7) + "?", 2, 11);
        Checks.faulty("lays=" + "(".repeat(6) + "?" + "(", 1, 11);
        Checks.faulty("square 4 4; hole 7 7; hole 8 8;", 5, 17);
    }

    private static void theLeastOfOnePlace() {
        String most = "seed 1;".repeat(132) + "asks=1;";
        Checks.faulty(most + "abc", 1, most.length());
        Checks.faulty(most + "?", 1, most.length());
        Checks.faulty(most + "12345", 1, most.length());
        Checks.faulty(most + ";", 1, most.length());
        Checks.faulty(holes(12) + "asks = hole", 1, holes(12).length() + 7);
        Checks.faulty(stones(18) + "seed stone", 1, stones(18).length() + 5);
        Checks.faulty("lays=" + "(".repeat(6) + "1(", 1, 12);
        String four = "asks = " + "if 1<2 then 3 else ".repeat(3) + "if 1<2 then ";
        Checks.faulty(four + "if", 1, four.length());
    }

    private static void noTextGoesOn() {
        Checks.faulty("1", 1, 0);
        Checks.faulty("if", 1, 0);
        Checks.faulty("seed seed", 1, 5);
        Checks.faulty("seed = 1;", 1, 5);
        Checks.faulty("seed (1);", 1, 5);
        Checks.faulty("square 4;", 1, 8);
        Checks.faulty("hole 0 0 0;", 1, 9);
        Checks.faulty("seed 1; Seed 1;", 1, 8);
        Checks.faulty("seed 1, ", 1, 6);
    }

    private static void wrongNumbers() {
        Checks.faulty("square 1 9;", 5, 7);
        Checks.faulty("square 4 9; square 4 4;", 5, 9);
        Checks.faulty("stone 0 0 2; hole 6 6;", 5, 10);
        Checks.faulty("hole 0 0; hole 0 0; hole 0   6;", 5, 29);
        // Only if there is no SYNTAX and no ROOM anywhere behind it.
        Checks.faulty("square 9 9; ?", 1, 12);
        Checks.faulty("square 9 9; seed", 1, 16);
        Checks.faulty("hole 9 9; lays=" + "(".repeat(7), 2, 21);
        Checks.faulty("square 9 9;" + holes(13), 2, 11 + holes(12).length());
        Checks.sound("asks = 9999; lays = 0; loosens = 0000; seed 9999;");
    }

    private static void beyondTheSquare() {
        String square = "square 3 2; ";
        String[] unfit = {"hole 3 0;", "hole 4 0;", "hole 5 0;", "hole 0 2;",
            "hole 0 3;", "hole 0 5;", "hole 5 5;", "stone 4 0 0;", "stone 5 0 0;", "stone 4 0 1;", "stone 0 3 0;", "stone 0 5 1;", "hole 1 1; hole 1 1;", "hole 1 1; hole 0 0; hole 1 1;",
            "stone 2 0 0;", "stone 0 1 1;", "stone 3 0 1;", "stone 0 2 0;", "stone 5 5 1;", "hole 0 0; stone 0 0 0;",
            "stone 0 0 0; hole 1 0;", "stone 0 0 1; hole 0 1;", "stone 0 0 0; stone 0 0 0;", "stone 0 0 0; stone 1 0 1;",
            "stone 0 0 1; stone 0 1 0;", "stone 0 0 0; stone 1 0 0;"};
        for (String text : unfit) {
            Checks.faulty(square + text, 6, square.length() + text.length());
            Checks.faulty(text + square + "\n", 6, square.length() + text.length() + 1);
        }
        for (String text : new String[] {"hole 2 1;", "hole 2 0; hole 0 1;", "stone 1 1 0;", "stone 2 0 1;", "stone 0 0 1; stone 1 0 0; stone 1 1 0;"}) {
            Checks.sound(square + text);
        }
        // The last SQUARE counts, and a WRONG number ahead of the text's end comes first.
        Checks.sound("square 2 2; hole 5 5; square 6 6;");
        Checks.faulty("square 6 6; hole 5 5; square 2 2;", 6, 33);
        Checks.faulty("hole 5 5; stone 0 0 2;", 5, 20);
    }

    private static CouplesPaving busy() {
        CouplesPaving x = Checks.of("square 3 2; stone 0 0 0; stone 0 1 0; asks = 5 + turned; loosens = 9 * which; lays = 3; seed 3;");
        x.turn(0);
        x.lay(2, 1);
        x.seasons(1);
        x.tell(0, true);
        x.hold(1);
        return x;
    }

    private static void aFaultChangesNothing() {
        String[] texts = {"square 4 4; hole 0 0; asks = 9; seed", "lays = 8; asks = 7; seed 5; loosens = " + "(".repeat(7),
            "square 2 2; asks = 9; stone 0 0 0; hole 6 6;", "square 2 2; asks = 8; lays = 7; seed 9; hole 0 0; hole 0 0;"};
        int[] faults = {1, 2, 5, 6};
        for (int i = 0; i < 4; i++) {
            CouplesPaving x = busy();
            int[] before = Checks.state(x);
            int later = x.then(-1, 9);
            Checks.due("the fault", Checks.read(x, texts[i]), faults[i]);
            Checks.due("the tape is empty", x.count(8), 0);
            Checks.sameState("a text with FAULT " + faults[i], x, before);
            Checks.due("what is to come", x.then(-1, 9), later);
            Checks.due("what is TOLD is KNOWN", x.fit(1, 0), 1);
            Checks.due("ALL", x.all(), 3);
            Checks.due("what is held", x.restore(1), true);
            x.lift(0);
            x.lay(0, 1);
            Checks.due("LAYS", x.count(6), before[6] + 3);
        }
    }

    private static void inPlaceOfTheOneAhead() {
        CouplesPaving x = busy();
        Checks.due("the text", Checks.read(x, "hole 3 3; stone 0 0 0;"), 0);
        int[] due = {4, 4, 1, 1, 1, 0, 0, 0, 0, 0, 0, 0, 0, 1, 13, 1, 0};
        for (int what = 0; what < due.length; what++) {
            Checks.due("count(" + what + ")", x.count(what), due[what]);
        }
        Checks.due("nothing can be undone", x.undo(), false);
        Checks.due("nothing is TOLD", x.fit(1, 0), -1);
        for (int slot = 0; slot < 3; slot++) {
            Checks.due("SLOT " + slot + " holds nothing", x.restore(slot), false);
        }
        Checks.due("a new STONE", x.stone(0, 2) * 10 + x.stone(0, 3), 0);
        Checks.due("the LAWS not told", x.stone(0, 4) * 1000 + x.stone(0, 5), 1000);
        x.lay(2, 0);
        Checks.due("LAYS not told", x.count(6), 0);
        Checks.due("the SEED not told", x.then(-1, 60), 2);
    }

    // Nothing of any text ahead is left, sound or not: each is as in a new object.
    private static void oneTextBehindAnother() {
        String lawful = "loosens=" + "1+".repeat(180) + "1;";
        String[] texts = {holes(12) + "seed 7;", "square 3 3; stone 0 0 0; stone 1 2 0; asks = 7; seed 3;", stones(18) + "lays = which;",
            lawful, "", lawful + "hole 3 3;", "seed 5; hole 1 1", "lays = 9; asks = 8; loosens = 7; stone 2 2 1;", "stone 0 0 0; stone 0 0 0;",
            "square 2 2; hole 0 0; hole 1 1; hole 0 0;", "square 6 6; stone 5 0 1;", "hole 9 0; stone 0 0 1;", lawful, "hole 2 1; asks = 5;",
            "square 2 5; stone 0 4 0; loosens = 40; seed 9999;", "stone 1 1 1; loosens = 86;", "square 5 5; hole 0 4; lays = 3 / 0;"};
        for (String ahead : texts) {
            for (String text : texts) {
                CouplesPaving fresh = new CouplesPaving();
                CouplesPaving x = new CouplesPaving();
                if (Checks.read(x, ahead) == 0) {
                    Checks.read(x, "");
                }
                Checks.due("behind " + ahead + " read of " + text, Checks.read(x, text), Checks.read(fresh, text));
                Checks.sameState(ahead + " and then " + text, x, Checks.state(fresh));
                Checks.due("what is to come", x.then(-1, 1), fresh.then(-1, 1));
                Checks.due("what is laid", x.lay(2, 1), fresh.lay(2, 1));
                Checks.due("LAYS", x.count(6), fresh.count(6));
                Checks.due("ALL", x.all(), fresh.all());
            }
        }
    }

    // ---- promises 1 to 5

    private static void aNewObject() {
        CouplesPaving x = new CouplesPaving();
        int[] due = {4, 4, 0, 0, 0, 0, 0, 0, 0, 0, 0, 0, 0, 0, 16, 0, 0};
        for (int what = 0; what < due.length; what++) {
            Checks.due("count(" + what + ")", x.count(what), due[what]);
        }
        for (int c = 0; c < 16; c++) {
            Checks.due("nothing on " + c, x.cell(c, 0), 0);
        }
        Checks.due("no cell 16", x.cell(16, 0), -1);
    }

    private static void twentyBytes() {
        CouplesPaving x = new CouplesPaving();
        // "seed", "1234", ";hol", "e 3 ", "2;  ": in another order there is a fault.
        Checks.due("feed", x.feed(0x73656564, 0x31323334, 0x3b686f6c, 0x65203320, 0x323b2020), 20);
        Checks.due("feed behind it", x.feed(0x686f6c65, 0x20302030, 0x3b202020, 0x20202020, 0x20202020), 40);
        Checks.due("bytes on the tape", x.count(8), 40);
        Checks.due("read", x.read(), 0);
        Checks.due("the hole of the first twenty", x.cell(11, 0), 2);
        Checks.due("the hole of the next twenty", x.cell(0, 0), 2);
        CouplesPaving y = new CouplesPaving();
        Checks.due("bytes of 255", y.feed(0x20202020, -1, -1, -1, -1), 20);
        Checks.due("are no blanks", y.read(), 1);
        Checks.due("from the fifth on", y.place(), 4);
        CouplesPaving z = new CouplesPaving();
        z.feed(0x20202020, 0x20202020, 0x20202020, 0x20202020, 0x20202080);
        Checks.due("the last byte is 128", z.read() * 100 + z.place(), 119);
    }

    private static void theTapeIsFull() {
        CouplesPaving x = new CouplesPaving();
        for (int i = 1; i <= 100; i++) {
            Checks.due("feed " + i, x.feed(0x20202020, 0x20202020, 0x20202020, 0x20202020, 0x20202020), 20 * i);
        }
        Checks.due("it would have 2020", x.feed(0, 0, 0, 0, 0), -1);
        Checks.due("it has 2000", x.count(8), 2000);
        x.back(1);
        Checks.due("it would have 2019", x.feed(0, 0, 0, 0, 0), -1);
        Checks.due("it has 1999", x.count(8), 1999);
        x.back(18);
        Checks.due("it would have 2001", x.feed(0, 0, 0, 0, 0), -1);
        Checks.due("it has 1981", x.count(8), 1981);
        x.back(1);
        Checks.due("it has 2000", x.feed(0x20202020, 0x20202020, 0x20202020, 0x20202020, 0x20202020), 2000);
        Checks.due("nothing of the refused ones came", x.read(), 0);
    }

    private static void theLastBytesGo() {
        CouplesPaving x = new CouplesPaving();
        Checks.due("nothing of nothing", x.back(0), 0);
        x.feed(0x68_6f_6c_65, 0x20_33_20_32, 0x3b_3f_3f_3f, 0x3f3f3f3f, 0x3f3f3f3f);
        Checks.due("nothing goes", x.back(0), 20);
        Checks.due("one goes", x.back(1), 19);
        Checks.due("ten go", x.back(10), 9);
        Checks.due("read", x.read(), 0);
        Checks.due("the first nine were left", x.cell(11, 0), 2);
        x.feed(0, 0, 0, 0, 0);
        Checks.due("all go", x.back(20), 0);
        Checks.due("read of nothing", x.read(), 0);
    }

    private static void notSoManyBytes() {
        CouplesPaving x = new CouplesPaving();
        Checks.due("of an empty tape", x.back(1), -1);
        Checks.due("below 0, of an empty tape", x.back(-1), -1);
        x.feed(0, 0, 0, 0, 0);
        for (int n : new int[] {21, 2000, 2001, Integer.MAX_VALUE, -1, -20, Integer.MIN_VALUE}) {
            Checks.due("back(" + n + ")", x.back(n), -1);
            Checks.due("the tape after back(" + n + ")", x.count(8), 20);
        }
        Checks.due("just so many", x.back(20), 0);
    }

    private static void theTapeIsEmptyThen() {
        CouplesPaving x = new CouplesPaving();
        Checks.due("a sound one", Checks.read(x, "square 3 2;"), 0);
        Checks.due("is empty then", x.count(8), 0);
        Checks.due("one with SYNTAX", Checks.read(x, "square 2 2"), 1);
        Checks.due("is empty then", x.count(8), 0);
        Checks.due("one with no ROOM", Checks.read(x, "asks=((((((("), 2);
        Checks.due("a WRONG one", Checks.read(x, "square 1 1;"), 5);
        Checks.due("one beyond the SQUARE", Checks.read(x, "hole 5 5;"), 6);
        Checks.due("is empty then", x.count(8), 0);
        Checks.due("3 by 2 still", x.count(0) * 10 + x.count(1), 32);
        Checks.due("read again, of nothing", x.read(), 0);
        Checks.due("4 by 4 then", x.count(0) * 10 + x.count(1), 44);
    }

    private static void thePlaceOfTheLatest() {
        CouplesPaving x = new CouplesPaving();
        Checks.due("before any", x.place(), -1);
        Checks.read(x, " ?");
        Checks.due("of a fault", x.place(), 1);
        Checks.feed(x, "seed 1;");
        x.back(2);
        x.lay(0, 0);
        Checks.due("until the next is read", x.place(), 1);
        x.read();
        Checks.due("of the next", x.place(), 5);
        Checks.read(x, "?");
        Checks.due("at the first byte", x.place(), 0);
        x.read();
        Checks.due("without a fault", x.place(), -1);
    }
}
