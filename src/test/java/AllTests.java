import java.io.IOException;
import java.nio.charset.StandardCharsets;
import java.nio.file.Files;
import java.nio.file.Path;

/** Runs every test of the project; takes the path of the class's source. */
public final class AllTests {
    private AllTests() {
    }

    public static void main(String[] args) throws IOException {
        Check check = new Check();
        new BatchTest(check).run();
        new RowTest(check).run();
        new RuleTest(check).run();
        new RepairTest(check).run();
        new DependencyTest(check).run();
        new OutlierTest(check).run();
        new ProfileTest(check).run();
        new ModelTest(check).run();
        new FaceTest(check).run();
        new LanguageTest(check).run(Files.readString(Path.of(args[0]), StandardCharsets.UTF_8));
        System.out.println("own checks: " + check.passed() + " hold, " + check.failed() + " do not");
        if (check.failed() != 0 || check.passed() == 0) {
            System.exit(1);
        }
    }
}
