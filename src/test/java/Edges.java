import java.util.ArrayList;
import java.util.List;

/**
 * Sentences of the document, each with tests of its own. A test's name is the promise it is for, the
 * sentence in the document's own words, and which case of that sentence it is; EdgesToldTest looks
 * whether the document says so, and whether a sentence is left out.
 */
final class Edges {
    interface Trial {
        void run(Edge is);
    }

    /** One test. */
    static final class Edge {
        final int promise;
        /** Whether the sentence stands in the promise's own section, not among the words that all use. */
        final boolean own;
        final String sentence;
        private final String which;
        private final Trial trial;
        private final Check check;
        private int answers;

        private Edge(int promise, boolean own, String sentence, String which, Trial trial, Check check) {
            this.promise = promise;
            this.own = own;
            this.sentence = sentence;
            this.which = which;
            this.trial = trial;
            this.check = check;
        }

        String name() {
            return "promise " + promise + (own ? ", \"" : ", terms, \"") + sentence + "\", " + which;
        }

        void due(String call, long got, long want) {
            answers++;
            check.due(name() + ": " + call, got, want);
        }

        void holds(String what, boolean so) {
            answers++;
            check.holds(name() + ": " + what, so);
        }
    }

    final List<Edge> all = new ArrayList<>();
    private final Check check;

    Edges(String name) {
        check = new Check(name);
    }

    /** A sentence of a promise's own section. */
    void of(int promise, String sentence, String which, Trial trial) {
        all.add(new Edge(promise, true, sentence, which, trial, check));
    }

    /** A sentence outside the promises' sections, looked at by the calls of one promise. */
    void terms(int promise, String sentence, String which, Trial trial) {
        all.add(new Edge(promise, false, sentence, which, trial, check));
    }

    void run() {
        for (Edge edge : all) {
            edge.trial.run(edge);
            check.holds(edge.name() + ": something is asked", edge.answers > 0);
        }
        check.end();
    }
}
