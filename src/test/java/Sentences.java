import java.util.ArrayList;
import java.util.List;
import java.util.function.Consumer;

/** Sentences of the document in its own words and order, each with a test of its own. */
final class Sentences {
    /** The heading that a sentence stands under, its words, and the test that fails if it is broken. */
    record Sentence(String heading, String words, Consumer<Check> test) {
    }

    private final List<Sentence> all = new ArrayList<>();
    private String heading = "";

    Sentences under(String nextHeading) {
        heading = nextHeading;
        return this;
    }

    Sentences says(String words, Consumer<Check> test) {
        all.add(new Sentence(heading, words, test));
        return this;
    }

    List<Sentence> all() {
        return all;
    }

    void tryAll() {
        Check check = new Check();
        for (Sentence sentence : all) {
            check.about(sentence.heading() + ", '" + sentence.words() + "'");
            int before = check.made();
            sentence.test().accept(check);
            check.holds("it is tried", check.made() > before);
        }
        check.end();
    }
}
