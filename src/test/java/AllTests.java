import java.io.IOException;
import java.nio.charset.StandardCharsets;
import java.nio.file.Files;
import java.nio.file.Path;
import java.util.Set;
import java.util.TreeSet;

/** Runs every test of the project; takes the paths of the class's source and of the document. */
public final class AllTests {
    private AllTests() {
    }

    public static void main(String[] args) throws IOException, ReflectiveOperationException {
        Check check = new Check();
        new BatchTest(check).run();
        new RowTest(check).run();
        new RuleTest(check).run();
        new RepairTest(check).run();
        new DependencyTest(check).run();
        new OutlierTest(check).run();
        new ProfileTest(check).run();
        new BatchEdgeTest(check).run();
        new RejectionEdgeTest(check).run();
        new RowEdgeTest(check).run();
        new RuleEdgeTest(check).run();
        new ConflictEdgeTest(check).run();
        new RepairEdgeTest(check).run();
        new DependencyEdgeTest(check).run();
        new OutlierEdgeTest(check).run();
        new ProfileEdgeTest(check).run();
        new RefusedTest(check).run();
        new FrameTest(check).run();
        everyPromiseHasTests(check);
        sentences(check, Path.of(args[1]));
        new ModelTest(check).run();
        new FaceTest(check).run();
        new LibraryTest(check).run();
        new LanguageTest(check).run(Files.readString(Path.of(args[0]), StandardCharsets.UTF_8));
        System.out.println("own checks: " + check.passed() + " hold, " + check.failed() + " do not");
        if (check.failed() != 0 || check.passed() == 0) {
            System.exit(1);
        }
    }

    private static void sentences(Check check, Path document) throws IOException, ReflectiveOperationException {
        Sentences sentences = new Sentences(check);
        new TermsSentenceTest(check, sentences).run();
        new FigureTermsSentenceTest(check, sentences).run();
        new BatchSentenceTest(check, sentences).run();
        new RowSentenceTest(check, sentences).run();
        new RuleSentenceTest(check, sentences).run();
        new RepairSentenceTest(check, sentences).run();
        new DependencySentenceTest(check, sentences).run();
        new OutlierSentenceTest(check, sentences).run();
        new ProfileSentenceTest(check, sentences).run();
        if (Files.exists(document)) {
            new DocumentTest(check).run(document, sentences.quoted());
        } else {
            System.out.println("no " + document + ": the quoted sentences are not compared with it");
        }
    }

    private static void everyPromiseHasTests(Check check) {
        check.test("each promise has tests by its name");
        Set<Integer> promises = new TreeSet<>();
        for (int promise = 1; promise <= 49; promise++) {
            promises.add(promise);
        }
        check.due(promises, check.promises());
    }
}
