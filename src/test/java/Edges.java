import java.util.ArrayList;
import java.util.List;
import java.util.function.Supplier;

/** Checks answers sentence by sentence, and that no sentence of the document is left without an answer. */
final class Edges {
    private record Quote(String heading, String words) {
    }

    private final Check check = new Check("EdgeTest");
    private final Document document = new Document();
    private final List<Quote> tested = new ArrayList<>();
    private Quote quote;

    /** Names the sentence to which the answers behind it belong, in the document's own words. */
    void sentence(String heading, String words) {
        quote = new Quote(heading, words);
        check.due("a reading of the document for " + told(), true, () -> document.says(heading, words));
    }

    void due(String call, Object want, Supplier<Object> got) {
        if (!tested.contains(quote)) {
            tested.add(quote);
        }
        check.due(call + " (" + told() + ")", want, got);
    }

    private String told() {
        return quote.heading() + ", \"" + quote.words() + "\"";
    }

    void finish() {
        document.sentences().forEach((heading, sentences) -> sentences.forEach(sentence ->
                check.due("a test of " + heading + ", \"" + sentence + "\"", true, () -> isTested(heading, sentence))));
        check.due("the headings with sentences", 6 + 42, () -> document.sentences().size());
        check.finish();
    }

    private boolean isTested(String heading, String sentence) {
        return tested.stream().anyMatch(quoted -> quoted.heading().equals(heading)
                && (sentence.contains(quoted.words()) || quoted.words().contains(sentence)));
    }
}
