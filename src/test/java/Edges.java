import java.util.ArrayList;
import java.util.List;

/** Tests of single sentences: each quotes what the document says at one place and asks for it. */
final class Edges {
    interface Question {
        void ask(Due due);
    }

    private final List<String> sections = new ArrayList<>();
    private final List<String> quotes = new ArrayList<>();
    private final List<Question> questions = new ArrayList<>();
    private String section = "";

    /** All of them, in the document's order. */
    static Edges all() {
        Edges edges = new Edges();
        EdgesOfWords.tell(edges);
        EdgesOfTexts.tell(edges);
        EdgesOfDeeds.tell(edges);
        EdgesOfThought.tell(edges);
        EdgesOfPromises.tell(edges);
        EdgesOfAnswers.tell(edges);
        return edges;
    }

    /** Names the section of the document from which the next quotes are. */
    void in(String name) {
        section = name;
    }

    void of(String quote, Question question) {
        sections.add(section);
        quotes.add(quote);
        questions.add(question);
    }

    int count() {
        return questions.size();
    }

    String section(int i) {
        return sections.get(i);
    }

    String quote(int i) {
        return quotes.get(i);
    }

    /** Whether all that is asked of a sentence is as due, and something is asked. */
    boolean holds(int i) {
        Due due = new Due(sections.get(i) + " \"" + quotes.get(i) + "\"");
        try {
            questions.get(i).ask(due);
        } catch (RuntimeException | StackOverflowError thrown) {
            due.is("it threw " + thrown, 1, 0);
        }
        return due.asked() > 0 && !due.isWrong();
    }
}
