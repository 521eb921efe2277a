import java.io.IOException;

/** Runs tests that are named after a sentence of ../shared/DOC.md; its words have to stand there. */
final class Edges {
    private final String name;
    private final Due due = new Due();
    private final Doc doc = new Doc();
    private int tests = 0;

    interface Edge {
        void run(Due due);
    }

    Edges(String name) throws IOException {
        this.name = name;
    }

    void test(String place, String words, Edge edge) {
        tests++;
        due.about(place + " '" + words + "': ");
        if (doc.begin(place) < 0 || !doc.of(place).contains(words)) {
            due.wrong("the document does not say so there");
        }
        int before = due.asked();
        edge.run(due);
        if (due.asked() == before) {
            due.wrong("nothing was asked");
        }
    }

    void end() {
        due.end(name + ", " + tests + " sentences");
    }
}
