import java.util.ArrayList;
import java.util.List;

/**
 * Tests of single sentences. Each has the section of the document in which its sentence stands, the promise
 * that the sentence binds, and the sentence's own words, so that a failing one tells which sentence is broken.
 */
final class Sentences {
    static final class Sentence {
        final String section;
        final int promise;
        final String words;
        final Runnable test;

        Sentence(String section, int promise, String words, Runnable test) {
            this.section = section;
            this.promise = promise;
            this.words = words;
            this.test = test;
        }

        String name() {
            String where = section.startsWith("Promise") ? "" : " (" + section + ")";
            return "Promise " + promise + where + ": " + words;
        }
    }

    private final List<Sentence> all = new ArrayList<>();
    private String section = "";
    private int promise = 0;

    /** The sentences that follow stand in this promise. */
    void promise(int number) {
        section = "Promise " + number;
        promise = number;
    }

    /** The sentences that follow stand in the terms, and are seen by this promise. */
    void terms(int seenBy) {
        section = "Terms";
        promise = seenBy;
    }

    /** The sentences that follow stand ahead of the terms, and are seen by this promise. */
    void opening(int seenBy) {
        section = "What it is";
        promise = seenBy;
    }

    void of(String words, Runnable test) {
        all.add(new Sentence(section, promise, words, test));
    }

    List<Sentence> all() {
        return all;
    }

    static Sentences ofAll() {
        Sentences s = new Sentences();
        TextSentences.tell(s);
        StoneSentences.tell(s);
        LawSentences.tell(s);
        SeasonSentences.tell(s);
        PavingSentences.tell(s);
        HillSentences.tell(s);
        ToldSentences.tell(s);
        HeldSentences.tell(s);
        return s;
    }

    /** Whether the sentence holds; what a test throws counts as a wrong answer. */
    static boolean holds(Sentence s) {
        int before = Checks.wrongSoFar();
        try {
            s.test.run();
        } catch (RuntimeException | StackOverflowError e) {
            Checks.due(s.name() + " threw " + e, 1, 0);
        }
        boolean holds = Checks.wrongSoFar() == before;
        if (!holds) {
            Checks.say("   so this is broken: " + s.name());
        }
        return holds;
    }

    /** The names of the sentences that are broken, without a word on the console. */
    static String[] broken() {
        Checks.beQuiet();
        List<String> names = new ArrayList<>();
        for (Sentence s : ofAll().all()) {
            if (!holds(s)) {
                names.add(s.name());
            }
        }
        return names.toArray(new String[0]);
    }
}
