import java.io.IOException;
import java.nio.file.Files;
import java.nio.file.Path;
import java.util.ArrayList;
import java.util.List;

/**
 * Each sentence of the document by a test of its own. The sentences are quoted, and this sees that they stand
 * in the document where they are said to, and that no words of the terms and of the promises are left without one.
 */
public final class SentencesTest {
    private static final Path DOCUMENT = Path.of("../shared/DOC.md");
    private static final String[] SECTIONS_WITHOUT = {"The public face", "Not promised"};

    private SentencesTest() {
    }

    public static void main(String[] args) throws IOException {
        List<Sentences.Sentence> all = Sentences.ofAll().all();
        int broken = 0;
        for (Sentences.Sentence s : all) {
            broken += Sentences.holds(s) ? 0 : 1;
        }
        System.out.println(all.size() + " sentences, " + broken + " broken");
        quotesStand(all, Files.readString(DOCUMENT));
        Checks.finish("SentencesTest");
    }

    private static void quotesStand(List<Sentences.Sentence> all, String document) {
        int promises = 0;
        for (String section : document.split("\n## ")) {
            String head = section.substring(0, Math.max(0, section.indexOf('\n')));
            String body = plain(section.substring(head.length()));
            if (head.startsWith("# ") || head.isEmpty() || List.of(SECTIONS_WITHOUT).contains(head)) {
                continue;
            }
            promises += head.startsWith("Promise ") ? 1 : 0;
            quotesStandIn(all, head.replaceAll(":.*", ""), body);
        }
        Checks.due("promises of the document", promises, 36);
    }

    private static void quotesStandIn(List<Sentences.Sentence> all, String head, String body) {
        boolean[] quoted = new boolean[body.length()];
        int sentences = 0;
        for (Sentences.Sentence s : all) {
            if (s.section.equals(head)) {
                sentences++;
                String words = plain(s.words);
                int from = body.indexOf(words);
                Checks.due(head + " has these words: " + s.words, from >= 0, true);
                for (int i = Math.max(from, 0); from >= 0 && i < from + words.length(); i++) {
                    quoted[i] = true;
                }
            }
        }
        Checks.due(head + " has a sentence", sentences > 0, true);
        if (!head.equals("What it is")) {
            for (String words : leftOver(body, quoted)) {
                Checks.due(head + " is quoted whole, but for: " + words, 1, 0);
            }
        }
    }

    /** The words between quotes, without the promises' signatures and the headings of the terms' parts. */
    private static List<String> leftOver(String body, boolean[] quoted) {
        List<String> left = new ArrayList<>();
        StringBuilder words = new StringBuilder();
        for (int i = 0; i <= body.length(); i++) {
            if (i < body.length() && !quoted[i]) {
                words.append(body.charAt(i));
                continue;
            }
            String found = words.toString().replaceAll("`[^`]*`:?|```(text)?|==== [IV]+\\.", "").trim();
            if (found.matches("(?s).*[A-Za-z0-9].*")) {
                left.add(found);
            }
            words.setLength(0);
        }
        return left;
    }

    private static String plain(String words) {
        return words.replace("```text", "").replace("```", "").replaceAll("\\s+", " ").trim();
    }
}
