import java.util.ArrayList;
import java.util.List;

/** The sentences of the document, each with the test that is its own. */
final class Sentences {
    /** The number of the part that stands before the promises. */
    static final int DESCRIPTION = 0;

    /** A sentence, or the part of one that can be broken alone. Without a test it only leads to others. */
    record Sentence(int promise, String words, Runnable test) {
    }

    private final List<Sentence> all = new ArrayList<>();
    private int promise;

    /** The sentences that follow stand there. */
    void promise(int number) {
        promise = number;
    }

    void says(String words, Runnable test) {
        all.add(new Sentence(promise, words, test));
    }

    /** Words that name no case of their own: what they tell of is tested by the sentences beside them. */
    void leads(String words) {
        all.add(new Sentence(promise, words, null));
    }

    List<String> wordsOf(int number) {
        List<String> out = new ArrayList<>();
        for (Sentence sentence : all) {
            if (sentence.promise == number) {
                out.add(sentence.words);
            }
        }
        return out;
    }

    void runAll() {
        for (Sentence sentence : all) {
            if (sentence.test != null) {
                run(sentence);
            }
        }
        Expect.about("");
    }

    private static void run(Sentence sentence) {
        Expect.about(sentence.promise + ", '" + sentence.words + "'");
        int asked = Expect.asked();
        try {
            sentence.test.run();
        } catch (RuntimeException e) {
            Expect.fail("the test was ended by " + e);
        }
        Expect.yes("that something was asked", Expect.asked() > asked);
    }
}
