/**
 * Each sentence of the document that names a boundary has a test of its own here, under the sentence's own words;
 * a sentence of the document that is not named fails the test.
 */
public final class EdgeTest {
    public static void main(String[] args) {
        Edges edges = new Edges();
        new CircuitEdges(edges).run();
        new JoiningEdges(edges).run();
        new ColourEdges(edges).run();
        new MatchEdges(edges).run();
        new DifferenceEdges(edges).run();
        new AnswerEdges(edges).run();
        new FindingEdges(edges).run();
        new RefusalEdges(edges).run();
        new OrderEdges(edges).run();
        edges.finish();
    }
}
