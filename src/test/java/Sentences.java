import java.util.ArrayList;
import java.util.List;

/** The sentences of the document in its order; each is quoted ahead of the checks that fail if it does not hold. */
final class Sentences {
    private final Check check;
    private final List<String> quoted = new ArrayList<>();
    private String section = "";
    private int checksAtQuote = -1;

    Sentences(Check check) {
        this.check = check;
    }

    /** The part of the document that the next sentences stand in. */
    void section(String name) {
        section = name;
    }

    /** Quotes a sentence; the checks up to the next quote are about it. */
    void says(String sentence) {
        lastQuoteHasChecks();
        quoted.add(section + ": " + sentence);
        check.test(section + ": " + sentence);
        checksAtQuote = checks();
    }

    List<String> quoted() {
        lastQuoteHasChecks();
        return quoted;
    }

    private void lastQuoteHasChecks() {
        if (checks() == checksAtQuote) {
            check.due("a check", "no check");
        }
        checksAtQuote = -1;
    }

    private int checks() {
        return check.passed() + check.failed();
    }
}
