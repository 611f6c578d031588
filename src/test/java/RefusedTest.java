import java.util.ArrayList;
import java.util.List;
import java.util.NoSuchElementException;
import java.util.Set;
import java.util.TreeSet;

/**
 * Refused calls: each exception that the document names is thrown, and a gate answers afterwards as its twin does, to
 * which the call was not made.
 */
final class RefusedTest {
    private static final int M = Gates.M;
    private static final int CALLS_OF_ONE_OBJECT = 512;
    private static final int CALLS_BEFORE_THE_LOOK = 60;
    private static final Class<IllegalArgumentException> ARGUMENT = IllegalArgumentException.class;
    private static final Class<IllegalStateException> STATE = IllegalStateException.class;
    private static final Class<IndexOutOfBoundsException> BOUNDS = IndexOutOfBoundsException.class;
    private static final Class<NoSuchElementException> ELEMENT = NoSuchElementException.class;
    private static final Class<ArithmeticException> ARITHMETIC = ArithmeticException.class;

    /** Makes a gate in a state, the same each time. */
    private interface Maker {
        QualityGate make();
    }

    private interface GateCall {
        Object on(QualityGate gate);
    }

    private final Check check;
    /** The methods and exceptions that were seen, as "commit IllegalStateException". */
    private final Set<String> seen = new TreeSet<>();

    RefusedTest(Check check) {
        this.check = check;
    }

    void run() {
        batchCalls();
        rowCalls();
        ruleCalls();
        conflictCalls();
        setCalls();
        figureCalls();
        rejectedCommit();
        askingChangesNothing();
        everyExceptionIsSeen();
    }

    // ---- the states

    /** Two rows are staged, which would be committed; a rejection and a profile are there, and five rules. */
    private static QualityGate used() {
        QualityGate gate = Gates.with(Gates.row(1, 1, 5, 5, M), Gates.row(2, 1, 5, 6, 9), Gates.row(3, 2, M, 7, 9),
                Gates.row(4, 2, 90, 8, 9));
        gate.saveProfile();
        gate.setFactor(2);
        gate.addRange(0, 0, 50, true);
        gate.addRequired(4, false);
        gate.addOrder(2, 3, false);
        gate.addUnique(0, true);
        gate.addDependency(2, 2, false);
        gate.removeRow(1);
        gate.stage(3, 3, 3, 3, 3);
        if (!"throws.UnsupportedOperationException".equals(Check.ownOutcome(gate::commit))) {
            throw new AssertionError("the commit must be rejected");
        }
        gate.discard();
        Gates.stageColumn(gate, 7, 8);
        return gate;
    }

    /** A full table, a full batch and ten rules, of which one is dropped. */
    private static QualityGate crowded() {
        QualityGate gate = Gates.full();
        gate.saveProfile();
        gate.setValue(3, 4, 77);
        for (int column = 0; column < 5; column++) {
            gate.addUnique(column, false);
            gate.addRange(column, 0, 60, true);
        }
        gate.dropRule(2);
        Gates.stageColumn(gate, 99, 98, 97, 96, 95, 94);
        return gate;
    }

    /** The table is empty, though a profile was saved; the latest rejection was at a row rule. */
    private static QualityGate emptied() {
        QualityGate gate = Gates.withColumn(1, 2);
        gate.saveProfile();
        gate.addRequired(0, true);
        gate.stage(M, 0, 0, 0, 0);
        Check.ownOutcome(gate::commit);
        gate.removeRow(0);
        gate.removeRow(1);
        return gate;
    }

    // ---- the calls

    private void batchCalls() {
        refused(2, "stage", ARGUMENT, RefusedTest::used, gate -> gate.stage(1, 1, 1, 1, 101));
        refused(2, "stage", ARGUMENT, RefusedTest::used, gate -> gate.stage(-100, 1, 1, 1, 1));
        refused(2, "stage", ARGUMENT, RefusedTest::crowded, gate -> gate.stage(1, 1, -100, 1, 1));
        refused(2, "stage", STATE, RefusedTest::crowded, gate -> gate.stage(1, 1, 1, 1, 1));
        refused(3, "commit", STATE, QualityGate::new, QualityGate::commit);
        refused(3, "commit", STATE, Gates::full, QualityGate::commit);
        refused(3, "commit", STATE, RefusedTest::crowded, QualityGate::commit);
        for (Maker maker : List.<Maker>of(QualityGate::new, Gates::full)) {
            refused(6, "rejectedRow", ELEMENT, maker, QualityGate::rejectedRow);
            refused(7, "rejectedRule", ELEMENT, maker, QualityGate::rejectedRule);
            refused(8, "rejectedOther", ELEMENT, maker, QualityGate::rejectedOther);
            refused(9, "isOtherStaged", ELEMENT, maker, QualityGate::isOtherStaged);
        }
        refused(8, "rejectedOther", ELEMENT, RefusedTest::emptied, QualityGate::rejectedOther);
        refused(9, "isOtherStaged", ELEMENT, RefusedTest::emptied, QualityGate::isOtherStaged);
    }

    private void rowCalls() {
        for (Maker maker : makers()) {
            for (int id : new int[] {-1, 1, 40}) {
                if (maker.make().rowCount() == 12 && id == 1) {
                    continue;
                }
                refused(10, "removeRow", ELEMENT, maker, gate -> gate.removeRow(id));
                refused(11, "setValue", ELEMENT, maker, gate -> gate.setValue(id, 5, 101));
                refused(11, "setValue", ELEMENT, maker, gate -> gate.setValue(id, 0, 9));
                refused(12, "valueAt", ELEMENT, maker, gate -> gate.valueAt(id, 5));
            }
            refused(14, "rowAt", BOUNDS, maker, gate -> gate.rowAt(-1));
            refused(14, "rowAt", BOUNDS, maker, gate -> gate.rowAt(gate.rowCount()));
        }
        for (Maker maker : List.<Maker>of(RefusedTest::used, RefusedTest::crowded)) {
            refused(11, "setValue", BOUNDS, maker, gate -> gate.setValue(0, 5, 101));
            refused(11, "setValue", BOUNDS, maker, gate -> gate.setValue(0, -1, 9));
            refused(11, "setValue", ARGUMENT, maker, gate -> gate.setValue(0, 0, 101));
            refused(11, "setValue", ARGUMENT, maker, gate -> gate.setValue(0, 4, -100));
            refused(12, "valueAt", BOUNDS, maker, gate -> gate.valueAt(0, 5));
        }
    }

    private static List<Maker> makers() {
        return List.of(QualityGate::new, RefusedTest::used, RefusedTest::crowded, RefusedTest::emptied);
    }

    private void ruleCalls() {
        for (Maker maker : makers()) {
            refused(15, "addRange", BOUNDS, maker, gate -> gate.addRange(5, 1, 0, true));
            refused(15, "addRange", ARGUMENT, maker, gate -> gate.addRange(0, 1, 0, true));
            refused(15, "addRange", ARGUMENT, maker, gate -> gate.addRange(0, 0, 100, true));
            refused(16, "addRequired", BOUNDS, maker, gate -> gate.addRequired(-1, true));
            refused(17, "addOrder", BOUNDS, maker, gate -> gate.addOrder(5, 5, true));
            refused(17, "addOrder", BOUNDS, maker, gate -> gate.addOrder(0, -1, true));
            refused(17, "addOrder", ARGUMENT, maker, gate -> gate.addOrder(2, 2, true));
            refused(18, "addUnique", BOUNDS, maker, gate -> gate.addUnique(5, true));
            refused(19, "addDependency", BOUNDS, maker, gate -> gate.addDependency(32, 5, true));
            refused(19, "addDependency", ARGUMENT, maker, gate -> gate.addDependency(32, 0, true));
            refused(19, "addDependency", ARGUMENT, maker, gate -> gate.addDependency(4, 2, true));
            refused(20, "dropRule", BOUNDS, maker, gate -> gate.dropRule(-1));
            refused(20, "dropRule", BOUNDS, maker, gate -> gate.dropRule(10));
        }
        refused(15, "addRange", STATE, RefusedTest::crowded, gate -> gate.addRange(0, 1, 1, true));
        refused(16, "addRequired", STATE, RefusedTest::crowded, gate -> gate.addRequired(0, true));
        refused(17, "addOrder", STATE, RefusedTest::crowded, gate -> gate.addOrder(0, 1, true));
        refused(18, "addUnique", STATE, RefusedTest::crowded, gate -> gate.addUnique(0, true));
        refused(19, "addDependency", STATE, RefusedTest::crowded, gate -> gate.addDependency(0, 0, true));
        refused(20, "dropRule", BOUNDS, RefusedTest::used, gate -> gate.dropRule(5));
        refused(20, "dropRule", STATE, RefusedTest::crowded, gate -> gate.dropRule(2));
    }

    private void conflictCalls() {
        for (Maker maker : makers()) {
            refused(21, "violations", BOUNDS, maker, gate -> gate.violations(10));
            refused(21, "violations", BOUNDS, maker, gate -> gate.violations(-1));
            refused(22, "isBad", ELEMENT, maker, gate -> gate.isBad(-1));
            refused(22, "isBad", ELEMENT, maker, gate -> gate.isBad(12));
            refused(23, "conflict", ELEMENT, maker, gate -> gate.conflict(12, 12));
            refused(23, "conflict", ELEMENT, maker, gate -> gate.conflict(0, 12));
            refused(23, "conflict", ELEMENT, maker, gate -> gate.conflict(-1, 0));
            refused(25, "groupSize", ELEMENT, maker, gate -> gate.groupSize(12));
            refused(28, "isInRepair", ELEMENT, maker, gate -> gate.isInRepair(12));
        }
        refused(21, "violations", STATE, RefusedTest::crowded, gate -> gate.violations(2));
        refused(23, "conflict", ARGUMENT, RefusedTest::used, gate -> gate.conflict(2, 2));
        refused(23, "conflict", ARGUMENT, RefusedTest::crowded, gate -> gate.conflict(11, 11));
    }

    private void setCalls() {
        for (Maker maker : makers()) {
            refused(30, "determines", ARGUMENT, maker, gate -> gate.determines(32, 5));
            refused(30, "determines", BOUNDS, maker, gate -> gate.determines(31, 5));
            refused(31, "determinesByPairs", ARGUMENT, maker, gate -> gate.determinesByPairs(-1, -1));
            refused(31, "determinesByPairs", BOUNDS, maker, gate -> gate.determinesByPairs(0, -1));
            refused(32, "minimalCount", BOUNDS, maker, gate -> gate.minimalCount(5));
            refused(33, "minimalCountByTrying", BOUNDS, maker, gate -> gate.minimalCountByTrying(-1));
            refused(34, "minimalAt", BOUNDS, maker, gate -> gate.minimalAt(5, 0));
            refused(34, "minimalAt", BOUNDS, maker, gate -> gate.minimalAt(0, 7));
            refused(35, "closureOf", ARGUMENT, maker, gate -> gate.closureOf(32));
            refused(36, "isKey", ARGUMENT, maker, gate -> gate.isKey(-1));
            refused(38, "errorOf", BOUNDS, maker, gate -> gate.errorOf(32, 5));
            refused(38, "errorOf", ARGUMENT, maker, gate -> gate.errorOf(32, 0));
            refused(38, "errorOf", ARGUMENT, maker, gate -> gate.errorOf(1, 0));
        }
        refused(37, "smallestKey", ELEMENT, () -> Gates.withColumn(1, 1), QualityGate::smallestKey);
    }

    private void figureCalls() {
        for (Maker maker : makers()) {
            refused(39, "setFactor", ARGUMENT, maker, gate -> gate.setFactor(0));
            refused(39, "setFactor", ARGUMENT, maker, gate -> gate.setFactor(10));
            refused(40, "medianOf", BOUNDS, maker, gate -> gate.medianOf(5));
            refused(41, "spreadOf", BOUNDS, maker, gate -> gate.spreadOf(-1));
            refused(42, "isOutlier", ELEMENT, maker, gate -> gate.isOutlier(12, 5));
            refused(43, "outliers", BOUNDS, maker, gate -> gate.outliers(5));
            refused(45, "drift", BOUNDS, maker, gate -> gate.drift(5));
            refused(47, "meanOf", BOUNDS, maker, gate -> gate.meanOf(5));
            refused(48, "missingShare", BOUNDS, maker, gate -> gate.missingShare(-1));
        }
        refused(42, "isOutlier", BOUNDS, RefusedTest::used, gate -> gate.isOutlier(0, 5));
        for (Maker maker : List.<Maker>of(QualityGate::new, RefusedTest::emptied)) {
            refused(40, "medianOf", ELEMENT, maker, gate -> gate.medianOf(0));
            refused(41, "spreadOf", ELEMENT, maker, gate -> gate.spreadOf(4));
            refused(44, "saveProfile", STATE, maker, QualityGate::saveProfile);
            refused(47, "meanOf", ARITHMETIC, maker, gate -> gate.meanOf(0));
            refused(48, "missingShare", ARITHMETIC, maker, gate -> gate.missingShare(0));
        }
        for (Maker maker : List.<Maker>of(QualityGate::new, Gates::full)) {
            refused(45, "drift", ELEMENT, maker, gate -> gate.drift(0));
            refused(46, "mostDrifted", ELEMENT, maker, QualityGate::mostDrifted);
        }
        refused(45, "drift", STATE, RefusedTest::emptied, gate -> gate.drift(0));
        refused(46, "mostDrifted", STATE, RefusedTest::emptied, QualityGate::mostDrifted);
    }

    // ---- what is held against the twin

    private void refused(int promise, String method, Class<? extends RuntimeException> want, Maker maker,
            GateCall call) {
        check.test("promise " + promise
                + ": all answers behind a refused " + method + " are as if it had not been made");
        seen.add(method + " " + want.getSimpleName());
        QualityGate gate = maker.make();
        QualityGate twin = maker.make();
        check.dueThrow(want, () -> call.on(gate));
        Look look = new Look(gate);
        Look twinLook = new Look(twin);
        check.due(twinLook.all(), look.all());
        check.due(later(twin), later(gate));
        check.due(new Look(twin).all(), new Look(gate).all());
        check.due(true, CALLS_BEFORE_THE_LOOK + 2 * look.calls() <= CALLS_OF_ONE_OBJECT);
    }

    /** The answers of some calls that change a gate. */
    private static List<Object> later(QualityGate gate) {
        List<Object> answers = new ArrayList<>();
        GateCall[] calls = {
            QualityGate::commit, QualityGate::discard, changed -> changed.stage(9, M, 9, M, 9), QualityGate::commit,
            changed -> changed.addRequired(1, false), changed -> changed.dropRule(0), changed -> changed.setFactor(5),
            QualityGate::saveProfile, QualityGate::repair, changed -> changed.setValue(0, 3, 33),
        };
        for (GateCall call : calls) {
            answers.add(Check.outcome(() -> call.on(gate)));
        }
        return answers;
    }

    private void rejectedCommit() {
        check.test("promise 3: behind a rejected commit the recorded rejection alone is another one");
        seen.add("commit UnsupportedOperationException");
        QualityGate gate = used();
        QualityGate twin = used();
        gate.stage(3, 3, 3, 3, 3);
        twin.stage(3, 3, 3, 3, 3);
        check.due("0 3 2 false", Gates.rejection(gate));
        check.dueThrow(UnsupportedOperationException.class, gate::commit);
        check.due("2 3 2 false", Gates.rejection(gate));
        check.due("0 3 2 false", Gates.rejection(twin));
        check.due(new Look(twin).allButRejection(), new Look(gate).allButRejection());
        gate.dropRule(3);
        twin.dropRule(3);
        check.due(6, gate.commit());
        check.due(6, twin.commit());
        check.due(new Look(twin).allButRejection(), new Look(gate).allButRejection());
        check.due("2 3 2 false", Gates.rejection(gate));
    }

    private void askingChangesNothing() {
        check.test("calls that only ask change nothing");
        for (Maker maker : makers()) {
            QualityGate gate = maker.make();
            String before = new Look(gate).all();
            check.due(before, new Look(gate).all());
        }
    }

    private void everyExceptionIsSeen() {
        check.test("each exception that the document names is thrown by a refused call");
        Set<String> named = new TreeSet<>();
        for (String signature : FaceTest.FACE) {
            int start = signature.indexOf(" throws ");
            if (start >= 0) {
                String method = signature.substring(signature.indexOf(' ') + 1, signature.indexOf('('));
                for (String exception : signature.substring(start + " throws ".length()).split(", ")) {
                    named.add(method + " " + exception);
                }
            }
        }
        check.due(named, seen);
    }
}
