import java.io.IOException;
import java.util.ArrayList;
import java.util.List;

/**
 * Tests that each quote the sentence of the document that they are for. A quote that the document
 * does not have is a fault, and so is a sentence of a part that no test quotes.
 */
final class Sentences {
    private final Check check;
    private final Document document;
    private final List<String> parts = new ArrayList<>();
    private String part = "";

    Sentences(Check check) throws IOException {
        this.check = check;
        document = new Document();
    }

    void part(String name) {
        part = name;
        parts.add(name);
        document.quote(name, document.signature(name));
    }

    Run test(String sentence, String... rows) {
        quote(sentence);
        return new Run(check, rows);
    }

    /** Words that a test of the same part heeds, or that name nothing that could be tested. */
    void quote(String... sentences) {
        for (String sentence : sentences) {
            check.part(part + ", \"" + sentence + "\"");
            check.due("the document has this sentence", document.quote(part, sentence), true);
        }
    }

    void end() {
        for (String name : parts) {
            check.part(name);
            check.due("what no test quotes", document.unquoted(name), "");
        }
        check.end();
    }
}
