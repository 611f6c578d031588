import java.util.regex.Matcher;
import java.util.regex.Pattern;

/** The rules of LANGUAGE.md that can be read off the text of the program. */
final class LanguageTest {
    private static final Pattern COMMENT = Pattern.compile("(?s)/\\*.*?\\*/|//[^\n]*");
    private static final Pattern TEXT = Pattern.compile("\"(?:[^\"\n\\\\]|\\\\.)*\"");
    private static final Pattern IMPORT = Pattern.compile("import ([\\w.]+);");
    private static final Pattern THROW = Pattern.compile("\\bthrow\\b([^;]*);");
    private static final Pattern CATCH = Pattern.compile("\\bcatch \\(([^)]*) \\w+\\)");
    private static final Pattern METHOD = Pattern.compile(
            "( {4}| {8})(?!(?:if|for|while|switch|return|throw|do|try)\\b)\\w[^;=]*\\([^;=]*");
    private static final String LIBRARY = "java\\.util\\.(ArrayList|List|Arrays|Iterator|NoSuchElementException)";
    private static final String EXCEPTION = "(IllegalStateException|IllegalArgumentException|IndexOutOfBoundsException"
            + "|ArithmeticException|UnsupportedOperationException|NoSuchElementException|RuntimeException)";
    /** LANGUAGE.md says "some sixty lines". */
    private static final int MOST_LINES = 65;
    private static final String[] OUTSIDE = {
        "::", "\\btry \\(", "\\bfinally\\b", "\\bsynchronized\\b", "\\bassert\\b", "\\bpackage\\b", "\\bnative\\b",
        "\\bThread\\b", "\\bSystem\\.(?!arraycopy)", "\\bObject\\b", "\\w+Exact\\b", "\\bstatic \\{", "\" \\+", "\\+ \"",
        "\\+= \"", "\\.getMessage\\(", "(?m)^(?! *(?:case\\b|default\\b)).*->"
    };

    private final Check check;

    LanguageTest(Check check) {
        this.check = check;
    }

    void run(String source) {
        check.test("LANGUAGE.md, the text of the program");
        String code = TEXT.matcher(COMMENT.matcher(source).replaceAll("")).replaceAll("\"\"");
        for (String outside : OUTSIDE) {
            check.due("no " + outside, (Pattern.compile(outside).matcher(code).find() ? "a " : "no ") + outside);
        }
        importsAreListed(code);
        exceptionsAreListed(code);
        methodsAreShort(code);
    }

    private void importsAreListed(String code) {
        check.test("LANGUAGE.md, rule 4: imports");
        Matcher imports = IMPORT.matcher(code);
        while (imports.find()) {
            check.due(imports.group(1) + " true", imports.group(1) + " " + imports.group(1).matches(LIBRARY));
        }
    }

    private void exceptionsAreListed(String code) {
        check.test("LANGUAGE.md, rule 6: exceptions");
        Matcher thrown = THROW.matcher(code);
        while (thrown.find()) {
            String what = thrown.group(1);
            check.due(what + " true", what + " " + what.matches(" new " + EXCEPTION + "\\((\"\")?\\)"));
        }
        Matcher caught = CATCH.matcher(code);
        while (caught.find()) {
            for (String type : caught.group(1).split(" \\| ")) {
                check.due(type + " true", type + " " + type.matches(EXCEPTION));
            }
        }
    }

    /** A method begins at a line of a class that has parentheses, and ends at the brace below its first letter. */
    private void methodsAreShort(String code) {
        check.test("LANGUAGE.md, rule 11");
        String[] lines = code.split("\n");
        int methods = 0;
        for (int start = 0; start < lines.length; start++) {
            Matcher opening = METHOD.matcher(lines[start]);
            if (opening.matches()) {
                int end = start;
                while (end < lines.length && !lines[end].equals(opening.group(1) + "}")) {
                    end++;
                }
                check.due(true, end - start < MOST_LINES);
                methods++;
            }
        }
        check.due(true, methods > 0);
    }
}
