import java.io.IOException;
import java.nio.charset.StandardCharsets;
import java.nio.file.Files;
import java.nio.file.Path;
import java.util.ArrayList;
import java.util.List;
import java.util.Set;
import java.util.TreeSet;
import java.util.regex.Matcher;
import java.util.regex.Pattern;

/**
 * Makes a program of the calls that README.md shows: the program makes them one after the other and ends with exit code
 * 1 if one does not answer as its comment says. Takes the page and the folder for the program.
 */
public final class ReadmeCalls {
    private static final String NAME = "ReadmeAnswers";
    private static final Pattern MAKING = Pattern.compile("QualityGate \\w+ = new QualityGate\\(\\);");
    private static final Pattern CALL = Pattern.compile("(\\w+\\.(\\w+)\\(.*?\\)); +// (throws \\w+|[-\\w.]+)(: .*)?");

    private final List<String> program = new ArrayList<>();
    private final Set<String> shown = new TreeSet<>();

    private ReadmeCalls() {
    }

    public static void main(String[] args) throws IOException {
        ReadmeCalls calls = new ReadmeCalls();
        calls.begin();
        boolean isJava = false;
        for (String line : Files.readAllLines(Path.of(args[0]), StandardCharsets.UTF_8)) {
            if (line.startsWith("```")) {
                isJava = line.equals("```java");
            } else if (isJava) {
                calls.take(line);
            }
        }
        calls.end();
        calls.everyCallOfTheFaceIsShown();
        Files.write(Path.of(args[1], NAME + ".java"), calls.program, StandardCharsets.UTF_8);
    }

    private void begin() {
        program.addAll(List.of(
                "public final class " + NAME + " {",
                "    interface Call {",
                "        Object answer();",
                "    }",
                "",
                "    private static boolean hasFailed;",
                "",
                "    private static void due(String call, String want, Call made) {",
                "        String got;",
                "        try {",
                "            got = String.valueOf(made.answer());",
                "        } catch (RuntimeException thrown) {",
                "            got = \"throws \" + thrown.getClass().getSimpleName();",
                "        }",
                "        if (!want.equals(got)) {",
                "            hasFailed = true;",
                "            System.out.println(\"README.md: \" + call + \" answers \" + got + \", not \" + want);",
                "        }",
                "    }",
                "",
                "    public static void main(String[] args) {"));
    }

    /** A line of the page is the making of an object, a call with its answer, or empty; nothing goes untested. */
    private void take(String line) {
        Matcher call = CALL.matcher(line);
        if (MAKING.matcher(line).matches()) {
            program.add("        " + line);
        } else if (call.matches()) {
            shown.add(call.group(2));
            String quoted = call.group(1).replace("\"", "\\\"");
            program.add("        due(\"" + quoted + "\", \"" + call.group(3) + "\", () -> " + call.group(1) + ");");
        } else if (!line.isEmpty()) {
            throw new IllegalStateException("README.md shows a line without its answer: " + line);
        }
    }

    private void end() {
        program.addAll(List.of(
                "        if (hasFailed) {",
                "            System.exit(1);",
                "        }",
                "        System.out.println(\"README.md: its calls answer as it says\");",
                "    }",
                "}"));
    }

    private void everyCallOfTheFaceIsShown() {
        Set<String> face = new TreeSet<>();
        for (String signature : FaceTest.FACE) {
            int space = signature.indexOf(' ');
            int parenthesis = signature.indexOf('(');
            if (space >= 0 && space < parenthesis) {
                face.add(signature.substring(space + 1, parenthesis));
            }
        }
        if (!face.equals(shown)) {
            face.removeAll(shown);
            throw new IllegalStateException("README.md does not show " + face);
        }
    }
}
