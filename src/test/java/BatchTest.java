import java.util.NoSuchElementException;

/** Promises 1 to 9: a new object, staging, commits and rejections. */
final class BatchTest {
    private static final int M = Gates.M;
    private final Check check;

    BatchTest(Check check) {
        this.check = check;
    }

    void run() {
        newObject();
        constant();
        stage();
        stageWrong();
        commit();
        commitTooMany();
        commitKeepsBatchWhenRejected();
        discard();
        rejectedByRowRule();
        rejectedByTableRow();
        rejectedByStagedRow();
        tableRowComesBeforeStagedRow();
        smallestOfSeveralOthers();
        rowsBeforeRulesAndRulesByNumber();
        onlyStrictRulesInForceReject();
        rejectionStaysUntilTheNext();
        capacityIsLookedAtBeforeRules();
    }

    private void newObject() {
        check.test("promise 1: a new object");
        QualityGate gate = new QualityGate();
        check.due(0, gate.rowCount());
        check.due(0, gate.staged());
        check.due(0, gate.groups());
        check.dueThrow(IndexOutOfBoundsException.class, () -> gate.rowAt(0));
        check.dueThrow(IndexOutOfBoundsException.class, () -> gate.violations(0));
        check.dueThrow(NoSuchElementException.class, gate::rejectedRow);
        check.dueThrow(NoSuchElementException.class, gate::mostDrifted);
        check.due(3, gate.setFactor(3));
        check.due(0, gate.addRequired(0, false));
    }

    private void constant() {
        check.test("the constant");
        check.due(100, QualityGate.MISSING);
    }

    private void stage() {
        check.test("promise 2: stage");
        QualityGate gate = new QualityGate();
        check.due(1, gate.stage(-99, 99, M, 0, -1));
        check.due(2, gate.stage(1, 2, 3, 4, 5));
        check.due(0, gate.rowCount());
        for (int i = 3; i <= 6; i++) {
            check.due(i, gate.stage(i, i, i, i, i));
        }
        check.dueThrow(IllegalStateException.class, () -> gate.stage(0, 0, 0, 0, 0));
        check.due(6, gate.staged());
        gate.commit();
        check.due("-99 99 100 0 -1", Gates.values(gate, 0));
        check.due("1 2 3 4 5", Gates.values(gate, 1));
        check.due("6 6 6 6 6", Gates.values(gate, 5));
    }

    private void stageWrong() {
        check.test("promise 2: stage with a value out of range");
        QualityGate gate = new QualityGate();
        for (int wrong : new int[] {-100, 101, Integer.MIN_VALUE, Integer.MAX_VALUE}) {
            check.dueThrow(IllegalArgumentException.class, () -> gate.stage(wrong, 0, 0, 0, 0));
            check.dueThrow(IllegalArgumentException.class, () -> gate.stage(0, wrong, 0, 0, 0));
            check.dueThrow(IllegalArgumentException.class, () -> gate.stage(0, 0, wrong, 0, 0));
            check.dueThrow(IllegalArgumentException.class, () -> gate.stage(0, 0, 0, wrong, 0));
            check.dueThrow(IllegalArgumentException.class, () -> gate.stage(0, 0, 0, 0, wrong));
        }
        check.due(0, gate.staged());
        for (int i = 0; i < 6; i++) {
            gate.stage(0, 0, 0, 0, 0);
        }
        check.dueThrow(IllegalArgumentException.class, () -> gate.stage(0, 0, 0, 0, 101));
        check.dueThrow(IllegalStateException.class, () -> gate.stage(0, 0, 0, 0, 0));
    }

    private void commit() {
        check.test("promise 3: commit");
        QualityGate gate = new QualityGate();
        check.dueThrow(IllegalStateException.class, gate::commit);
        gate.stage(1, 1, 1, 1, 1);
        gate.stage(2, 2, 2, 2, 2);
        check.due(2, gate.commit());
        check.due(0, gate.staged());
        check.dueThrow(IllegalStateException.class, gate::commit);
        gate.removeRow(1);
        gate.stage(3, 3, 3, 3, 3);
        check.due(2, gate.commit());
        check.due("0 2", Gates.ids(gate));
        check.due("3 3 3 3 3", Gates.values(gate, 2));
    }

    private void commitTooMany() {
        check.test("promise 3: commit with too many rows");
        QualityGate gate = new QualityGate();
        for (int i = 0; i < 6; i++) {
            gate.stage(i, 0, 0, 0, 0);
        }
        gate.commit();
        for (int i = 6; i < 11; i++) {
            gate.stage(i, 0, 0, 0, 0);
        }
        check.due(11, gate.commit());
        gate.stage(11, 0, 0, 0, 0);
        gate.stage(12, 0, 0, 0, 0);
        check.dueThrow(IllegalStateException.class, gate::commit);
        check.due(2, gate.staged());
        check.due(11, gate.rowCount());
        gate.removeRow(0);
        check.due(12, gate.commit());
        check.due("1 2 3 4 5 6 7 8 9 10 11 12", Gates.ids(gate));
    }

    private void commitKeepsBatchWhenRejected() {
        check.test("promise 3: a rejected commit adds none of the rows");
        QualityGate gate = new QualityGate();
        gate.addRequired(1, true);
        gate.stage(1, 1, 1, 1, 1);
        gate.stage(2, M, 2, 2, 2);
        check.dueThrow(UnsupportedOperationException.class, gate::commit);
        check.due(0, gate.rowCount());
        check.due(2, gate.staged());
        gate.dropRule(0);
        check.due(2, gate.commit());
        check.due("0 1", Gates.ids(gate));
        check.due("2 100 2 2 2", Gates.values(gate, 1));
    }

    private void discard() {
        check.test("promises 4 and 5: discard and staged");
        QualityGate gate = new QualityGate();
        check.due(0, gate.discard());
        gate.stage(1, 1, 1, 1, 1);
        gate.stage(2, 2, 2, 2, 2);
        check.due(2, gate.staged());
        check.due(2, gate.discard());
        check.due(0, gate.staged());
        gate.stage(3, 3, 3, 3, 3);
        check.due(1, gate.commit());
        check.due("3 3 3 3 3", Gates.values(gate, 0));
    }

    private void rejectedByRowRule() {
        check.test("promises 6 to 9: a rejection at a row rule");
        QualityGate gate = new QualityGate();
        check.dueThrow(NoSuchElementException.class, gate::rejectedRow);
        check.dueThrow(NoSuchElementException.class, gate::rejectedRule);
        check.dueThrow(NoSuchElementException.class, gate::rejectedOther);
        check.dueThrow(NoSuchElementException.class, gate::isOtherStaged);
        gate.addRequired(0, true);
        gate.addRange(1, 0, 9, true);
        gate.stage(1, 1, 0, 0, 0);
        gate.stage(1, 2, 0, 0, 0);
        gate.stage(1, 10, 0, 0, 0);
        check.dueThrow(UnsupportedOperationException.class, gate::commit);
        check.due(2, gate.rejectedRow());
        check.due(1, gate.rejectedRule());
        check.dueThrow(NoSuchElementException.class, gate::rejectedOther);
        check.dueThrow(NoSuchElementException.class, gate::isOtherStaged);
    }

    private void rejectedByTableRow() {
        check.test("promises 6 to 9: a rejection against a row of the table");
        QualityGate gate = Gates.withColumn(1, 2, 3);
        gate.removeRow(0);
        gate.addUnique(0, true);
        gate.stage(4, 0, 0, 0, 0);
        gate.stage(3, 0, 0, 0, 0);
        check.dueThrow(UnsupportedOperationException.class, gate::commit);
        check.due(1, gate.rejectedRow());
        check.due(0, gate.rejectedRule());
        check.due(2, gate.rejectedOther());
        check.due(false, gate.isOtherStaged());
    }

    private void rejectedByStagedRow() {
        check.test("promises 6 to 9: a rejection against a staged row");
        QualityGate gate = Gates.withColumn(1, 2, 3);
        gate.addUnique(0, true);
        gate.stage(4, 0, 0, 0, 0);
        gate.stage(5, 0, 0, 0, 0);
        gate.stage(6, 0, 0, 0, 0);
        gate.stage(5, 0, 0, 0, 0);
        check.dueThrow(UnsupportedOperationException.class, gate::commit);
        check.due(3, gate.rejectedRow());
        check.due(0, gate.rejectedRule());
        check.due(1, gate.rejectedOther());
        check.due(true, gate.isOtherStaged());
    }

    private void tableRowComesBeforeStagedRow() {
        check.test("promise 8: the other row is one of the table before a staged one");
        QualityGate gate = Gates.with(Gates.row(1, 7, 0, 0, 0));
        gate.addDependency(1, 2, true);
        gate.stage(1, 0, 0, 0, 0);
        gate.stage(1, 0, 5, 0, 0);
        check.dueThrow(UnsupportedOperationException.class, gate::commit);
        check.due(1, gate.rejectedRow());
        check.due(0, gate.rejectedOther());
        check.due(false, gate.isOtherStaged());
    }

    private void smallestOfSeveralOthers() {
        check.test("promise 8: of several other rows, the first");
        QualityGate gate = Gates.withColumn(9, 5, 5);
        gate.addUnique(0, true);
        gate.stage(5, 0, 0, 0, 0);
        check.dueThrow(UnsupportedOperationException.class, gate::commit);
        check.due(1, gate.rejectedOther());
        QualityGate empty = new QualityGate();
        empty.addDependency(2, 0, true);
        empty.stage(1, 8, 0, 0, 0);
        empty.stage(2, 7, 0, 0, 0);
        empty.stage(2, 7, 0, 0, 0);
        empty.stage(3, 7, 0, 0, 0);
        check.dueThrow(UnsupportedOperationException.class, empty::commit);
        check.due(3, empty.rejectedRow());
        check.due(1, empty.rejectedOther());
        check.due(true, empty.isOtherStaged());
    }

    private void rowsBeforeRulesAndRulesByNumber() {
        check.test("promise 7: row after row, and for each the rules by their numbers");
        QualityGate gate = new QualityGate();
        gate.addUnique(0, true);
        gate.addRequired(1, true);
        gate.addRange(2, 0, 0, true);
        gate.stage(1, M, 1, 0, 0);
        gate.stage(1, M, 1, 0, 0);
        check.dueThrow(UnsupportedOperationException.class, gate::commit);
        check.due(0, gate.rejectedRow());
        check.due(1, gate.rejectedRule());
        gate.dropRule(1);
        check.dueThrow(UnsupportedOperationException.class, gate::commit);
        check.due(0, gate.rejectedRow());
        check.due(2, gate.rejectedRule());
        gate.dropRule(2);
        check.dueThrow(UnsupportedOperationException.class, gate::commit);
        check.due(1, gate.rejectedRow());
        check.due(0, gate.rejectedRule());
    }

    private void onlyStrictRulesInForceReject() {
        check.test("promise 3: only strict rules that are not dropped reject");
        QualityGate gate = new QualityGate();
        gate.addRequired(0, false);
        gate.addUnique(1, false);
        gate.addDependency(0, 2, true);
        gate.dropRule(2);
        gate.stage(M, 1, 1, 0, 0);
        gate.stage(M, 1, 2, 0, 0);
        check.due(2, gate.commit());
        check.dueThrow(NoSuchElementException.class, gate::rejectedRow);
    }

    private void rejectionStaysUntilTheNext() {
        check.test("promises 6 to 9: the latest rejection");
        QualityGate gate = new QualityGate();
        gate.addUnique(0, true);
        gate.addRequired(1, true);
        gate.stage(1, 0, 0, 0, 0);
        gate.stage(1, 0, 0, 0, 0);
        check.dueThrow(UnsupportedOperationException.class, gate::commit);
        gate.discard();
        check.dueThrow(IllegalStateException.class, gate::commit);
        gate.stage(1, 0, 0, 0, 0);
        gate.commit();
        check.due(1, gate.rejectedRow());
        check.due(0, gate.rejectedRule());
        check.due(0, gate.rejectedOther());
        check.due(true, gate.isOtherStaged());
        gate.stage(1, 0, 0, 0, 0);
        check.dueThrow(UnsupportedOperationException.class, gate::commit);
        gate.removeRow(0);
        gate.dropRule(0);
        check.due(0, gate.rejectedRow());
        check.due(0, gate.rejectedOther());
        check.due(false, gate.isOtherStaged());
        gate.discard();
        gate.stage(1, M, 0, 0, 0);
        check.dueThrow(UnsupportedOperationException.class, gate::commit);
        check.due(1, gate.rejectedRule());
        check.dueThrow(NoSuchElementException.class, gate::rejectedOther);
        check.dueThrow(NoSuchElementException.class, gate::isOtherStaged);
    }

    private void capacityIsLookedAtBeforeRules() {
        check.test("promise 3: too many rows come before a rejection");
        QualityGate gate = Gates.withColumn(1, 2, 3, 4, 5, 6, 7, 8, 9, 10, 11, 12);
        gate.addUnique(0, true);
        gate.stage(1, 0, 0, 0, 0);
        check.dueThrow(IllegalStateException.class, gate::commit);
        check.dueThrow(NoSuchElementException.class, gate::rejectedRow);
    }
}
