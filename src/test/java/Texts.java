import java.util.ArrayList;
import java.util.List;
import java.util.Random;

/** Makes texts by chance: sound ones mostly, and ones with faults of every sort. */
final class Texts {
    private static final String[] VARS = {"across", "left", "top", "turned", "age", "season", "which", "stones", "holes"};
    private static final String[] WORDS = {"square", "hole", "stone", "asks", "loosens", "lays", "seed", "if", "then",
        "else", "across", "left", "holes", "name", "abcdefgh", "abcdefghi", ";", "=", "+", "-", "*", "/", "<", "(", ")",
        "0", "1", "6", "7", "9999", "12345", "00000", "?", "A", "\u00e9", "_", "\u0000", "."};

    private final Random chance;

    Texts(Random chance) {
        this.chance = chance;
    }

    String any() {
        List<String> words = sound();
        int kind = chance.nextInt(10);
        if (kind < 3) {
            spoil(words);
        } else if (kind == 3) {
            words.addAll(0, crowd());
        }
        String text = joined(words);
        if (chance.nextInt(30) == 0 && !text.isEmpty()) {
            text = text.substring(0, chance.nextInt(text.length()));
        }
        return text.length() > 2000 ? text.substring(0, 2000) : text;
    }

    private String joined(List<String> words) {
        StringBuilder text = new StringBuilder();
        boolean wideBlanks = chance.nextInt(4) == 0;
        for (int i = 0; i < words.size(); i++) {
            String word = words.get(i);
            boolean glued = i > 0 && sameSort(words.get(i - 1), word);
            int blanks = wideBlanks ? chance.nextInt(4) : chance.nextInt(2);
            if (glued && blanks == 0 && chance.nextInt(200) != 0) {
                blanks = 1;
            }
            for (int n = 0; n < blanks; n++) {
                text.append("\t\n\r    ".charAt(chance.nextInt(7)));
            }
            text.append(word);
        }
        return text.toString();
    }

    private static boolean sameSort(String a, String b) {
        char p = a.charAt(a.length() - 1);
        char q = b.charAt(0);
        return Character.isLetter(p) && Character.isLetter(q) || Character.isDigit(p) && Character.isDigit(q);
    }

    private void spoil(List<String> words) {
        int many = 1 + chance.nextInt(2);
        for (int n = 0; n < many; n++) {
            int at = chance.nextInt(words.size() + 1);
            String word = WORDS[chance.nextInt(WORDS.length)];
            if (chance.nextBoolean() || at == words.size()) {
                words.add(at, word);
            } else if (chance.nextBoolean()) {
                words.set(at, word);
            } else {
                words.remove(at);
            }
        }
    }

    /** More of a sort than there is room for, or just as many. */
    private List<String> crowd() {
        List<String> words = new ArrayList<>();
        int more = chance.nextInt(3) - 1;
        switch (chance.nextInt(6)) {
            case 0:
                for (int i = 0; i < 12 + more; i++) {
                    add(words, "hole", i % 6, i / 6, ";");
                }
                add(words, "square", 6, 6, ";");
                break;
            case 1:
                for (int i = 0; i < 18 + more; i++) {
                    add(words, "stone", i % 3 * 2, i / 3, 0, ";");
                }
                add(words, "square", 6, 6, ";");
                break;
            case 2:
                add(words, "asks", "=");
                for (int i = 0; i < 4 + more; i++) {
                    add(words, "if", i, "<", 1, "then", 2, "else");
                }
                add(words, 1, ";");
                break;
            case 3:
                add(words, "lays", "=", "(", 1, ")", "+");
                for (int i = 0; i < 6 + more; i++) {
                    add(words, "(", "1", "*");
                }
                words.add("which");
                for (int i = 0; i < 6 + more; i++) {
                    words.add(")");
                }
                words.add(";");
                break;
            default:
                words.add("loosens");
                words.add("=");
                int units = 180 + chance.nextInt(25);
                words.add("1");
                for (int i = 0; i < units; i++) {
                    add(words, "+-*".charAt(chance.nextInt(3)) + "", chance.nextInt(3));
                }
                words.add(";");
                for (int i = chance.nextInt(12); i > 0; i--) {
                    add(words, "seed", "5", ";");
                }
                break;
        }
        return words;
    }

    private static void add(List<String> words, Object... more) {
        for (Object o : more) {
            words.add(o.toString());
        }
    }

    private List<String> sound() {
        List<List<String>> tells = new ArrayList<>();
        int wide = 4;
        int high = 4;
        if (chance.nextInt(6) != 0) {
            wide = 2 + chance.nextInt(5);
            high = 2 + chance.nextInt(5);
            add(newTell(tells), "square", wide, high, ";");
        }
        boolean[][] used = new boolean[high][wide];
        int holes = chance.nextInt(3) == 0 ? 0 : chance.nextInt(Math.min(12, wide * high) + 1);
        if (chance.nextInt(2) == 0) {
            holes = Math.min(holes, 4);
        }
        for (int i = 0; i < holes; i++) {
            int x = chance.nextInt(wide);
            int y = chance.nextInt(high);
            if (!used[y][x]) {
                used[y][x] = true;
                add(newTell(tells), "hole", x, y, ";");
            }
        }
        int stones = chance.nextInt(3) == 0 ? 0 : chance.nextInt(19);
        for (int i = 0; i < stones; i++) {
            int x = chance.nextInt(wide);
            int y = chance.nextInt(high);
            int way = chance.nextInt(2);
            int x2 = x + 1 - way;
            int y2 = y + way;
            if (x2 < wide && y2 < high && !used[y][x] && !used[y2][x2]) {
                used[y][x] = true;
                used[y2][x2] = true;
                add(newTell(tells), "stone", x, y, way, ";");
            }
        }
        addLaws(tells);
        List<String> words = new ArrayList<>();
        for (List<String> tell : tells) {
            words.addAll(tell);
        }
        return words;
    }

    // The order of tells matters only among stones and among ones of which the last counts.
    private List<String> newTell(List<List<String>> tells) {
        List<String> tell = new ArrayList<>();
        tells.add(tell);
        return tell;
    }

    private void addLaws(List<List<String>> tells) {
        for (String law : new String[] {"asks", "loosens", "lays", "loosens"}) {
            if (chance.nextInt(3) != 0) {
                List<String> tell = new ArrayList<>();
                add(tell, law, "=");
                for (int i = chance.nextInt(6) - 2; i > 0; i--) {
                    tell.add("if");
                    sum(tell, 0);
                    tell.add("<");
                    sum(tell, 0);
                    tell.add("then");
                    sum(tell, 0);
                    tell.add("else");
                }
                if (law.equals("loosens") && chance.nextBoolean()) {
                    tell.add("" + (1 + chance.nextInt(6)));
                    tell.add("*");
                }
                sum(tell, 0);
                tell.add(";");
                tells.add(chance.nextInt(tells.size() + 1), tell);
            }
        }
        if (chance.nextInt(2) == 0) {
            List<String> tell = new ArrayList<>();
            add(tell, "seed", chance.nextInt(10000), ";");
            tells.add(chance.nextInt(tells.size() + 1), tell);
        }
    }

    private void sum(List<String> words, int depth) {
        part(words, depth);
        for (int n = chance.nextInt(5) - 2; n > 0; n--) {
            words.add(chance.nextBoolean() ? "+" : "-");
            part(words, depth);
        }
    }

    private void part(List<String> words, int depth) {
        unit(words, depth);
        for (int n = chance.nextInt(5) - 2; n > 0; n--) {
            words.add(chance.nextBoolean() ? "*" : "/");
            unit(words, depth);
        }
    }

    private void unit(List<String> words, int depth) {
        int kind = chance.nextInt(10);
        if (kind < 2 && depth < 6) {
            words.add("(");
            sum(words, depth + 1);
            words.add(")");
        } else if (kind < 6) {
            words.add(VARS[chance.nextInt(VARS.length)]);
        } else {
            int size = new int[] {3, 10, 100, 10000}[chance.nextInt(4)];
            words.add("" + chance.nextInt(size));
        }
    }
}
