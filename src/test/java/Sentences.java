import java.util.ArrayList;
import java.util.List;

/** Sentences of the document, in its own words, each with the test that holds it. */
final class Sentences {
    record Sentence(String place, String words, Runnable test) { }

    final List<Sentence> all = new ArrayList<>();
    private String place = "";

    /** The part of the document in which the next ones stand. */
    Sentences in(String part) {
        place = part;
        return this;
    }

    Sentences hold(String words, Runnable test) {
        all.add(new Sentence(place, words, test));
        return this;
    }

    void runAll(Due due) {
        for (Sentence sentence : all) {
            due.under(sentence.place + ", \"" + sentence.words + "\"");
            int before = due.asked();
            sentence.test.run();
            due.is("whether anything is asked", due.asked() > before ? 1 : 0, 1);
        }
        System.out.println(all.size() + " sentences of the document");
        due.end();
    }
}
