import java.util.NoSuchElementException;

/** Promises 6 to 9 at their bounds: what is recorded of the latest rejected commit. */
final class RejectionEdgeTest {
    private static final int M = Gates.M;
    private final Check check;

    RejectionEdgeTest(Check check) {
        this.check = check;
    }

    void run() {
        noneRecorded();
        firstAndLastIndex();
        firstRowOfSeveral();
        indexStays();
        firstAndLastRule();
        firstRuleOfSeveral();
        ruleStays();
        rowComesBeforeRule();
        noOtherAtEachRowRule();
        noOtherAfterAnEarlierOne();
        firstAndLastOtherOfTheTable();
        smallestIdOfTheTable();
        firstAndLastOtherOfTheBatch();
        tableBeforeBatch();
        otherStays();
        laterRowOfTheBatchIsNotTheOther();
        otherIsStagedOrNot();
        otherReplacesAnEarlierOne();
    }

    private static QualityGate uniqueAndRequired() {
        QualityGate gate = new QualityGate();
        gate.addUnique(0, true);
        gate.addRequired(1, true);
        return gate;
    }

    private void rejected(QualityGate gate) {
        check.dueThrow(UnsupportedOperationException.class, gate::commit);
    }

    private void dueNone(QualityGate gate) {
        check.dueThrow(NoSuchElementException.class, gate::rejectedRow);
        check.dueThrow(NoSuchElementException.class, gate::rejectedRule);
        check.dueThrow(NoSuchElementException.class, gate::rejectedOther);
        check.dueThrow(NoSuchElementException.class, gate::isOtherStaged);
    }

    private void dueRowRule(QualityGate gate, int row, int rule) {
        check.due(row, gate.rejectedRow());
        check.due(rule, gate.rejectedRule());
        check.dueThrow(NoSuchElementException.class, gate::rejectedOther);
        check.dueThrow(NoSuchElementException.class, gate::isOtherStaged);
    }

    private void duePairRule(QualityGate gate, int row, int rule, int other, boolean isStaged) {
        check.due(row, gate.rejectedRow());
        check.due(rule, gate.rejectedRule());
        check.due(other, gate.rejectedOther());
        check.due(isStaged, gate.isOtherStaged());
    }

    private void noneRecorded() {
        QualityGate gate = uniqueAndRequired();
        for (int promise = 6; promise <= 9; promise++) {
            check.test("promise " + promise + ": no commit was rejected");
            dueNone(new QualityGate());
        }
        check.test("promise 6: commits that went through or were refused are not rejected");
        check.dueThrow(IllegalStateException.class, gate::commit);
        gate.stage(1, 1, 1, 1, 1);
        gate.commit();
        dueNone(gate);
        gate.stage(1, M, 1, 1, 1);
        gate.discard();
        dueNone(gate);
    }

    private void firstAndLastIndex() {
        check.test("promise 6: the first and the last index of a full batch");
        QualityGate gate = uniqueAndRequired();
        gate.stage(1, M, 0, 0, 0);
        Gates.stageColumn(gate, 2, 3, 4, 5, 6);
        rejected(gate);
        check.due(0, gate.rejectedRow());
        gate.discard();
        Gates.stageColumn(gate, 2, 3, 4, 5, 6);
        gate.stage(1, M, 0, 0, 0);
        rejected(gate);
        check.due(5, gate.rejectedRow());
    }

    private void firstRowOfSeveral() {
        check.test("promise 6: of several rows, the one with the smallest index");
        QualityGate gate = uniqueAndRequired();
        gate.stage(1, 1, 0, 0, 0);
        gate.stage(2, M, 0, 0, 0);
        gate.stage(1, 1, 0, 0, 0);
        gate.stage(3, M, 0, 0, 0);
        rejected(gate);
        dueRowRule(gate, 1, 1);
    }

    private void indexStays() {
        check.test("promise 6: the index is the one that it had");
        QualityGate gate = uniqueAndRequired();
        Gates.stageColumn(gate, 1, 2);
        gate.stage(3, M, 0, 0, 0);
        rejected(gate);
        gate.discard();
        check.due(2, gate.rejectedRow());
        gate.stage(4, 0, 0, 0, 0);
        gate.commit();
        check.due(2, gate.rejectedRow());
        gate.removeRow(0);
        check.due(2, gate.rejectedRow());
    }

    private void firstAndLastRule() {
        check.test("promise 7: the first and the last of ten rules");
        QualityGate gate = new QualityGate();
        gate.addRequired(0, true);
        for (int rule = 1; rule < 9; rule++) {
            gate.addRange(1, rule, 99, true);
        }
        check.due(9, gate.addUnique(2, true));
        gate.stage(M, 50, 0, 0, 0);
        rejected(gate);
        dueRowRule(gate, 0, 0);
        gate.discard();
        gate.stage(1, 50, 7, 0, 0);
        gate.commit();
        gate.stage(1, 50, 7, 0, 0);
        rejected(gate);
        duePairRule(gate, 0, 9, 0, false);
    }

    private void firstRuleOfSeveral() {
        check.test("promise 7: of several rules, the smallest number that is strict and not dropped");
        QualityGate gate = new QualityGate();
        gate.addRequired(0, false);
        gate.addRequired(0, true);
        gate.addRequired(0, true);
        gate.addRequired(0, true);
        gate.dropRule(1);
        gate.stage(M, 0, 0, 0, 0);
        rejected(gate);
        check.due(2, gate.rejectedRule());
        gate.dropRule(2);
        rejected(gate);
        check.due(3, gate.rejectedRule());
    }

    private void ruleStays() {
        check.test("promise 7: the rule stays recorded after it is dropped");
        QualityGate gate = uniqueAndRequired();
        gate.stage(1, M, 0, 0, 0);
        rejected(gate);
        gate.dropRule(1);
        gate.dropRule(0);
        check.due(1, gate.rejectedRule());
        gate.commit();
        check.due(1, gate.rejectedRule());
    }

    private void rowComesBeforeRule() {
        check.test("promise 7: a row with a smaller index comes before a rule with a smaller number");
        QualityGate gate = uniqueAndRequired();
        gate.stage(1, M, 0, 0, 0);
        gate.stage(1, 1, 0, 0, 0);
        rejected(gate);
        dueRowRule(gate, 0, 1);
        gate.dropRule(1);
        rejected(gate);
        duePairRule(gate, 1, 0, 0, true);
    }

    private void noOtherAtEachRowRule() {
        for (int promise = 8; promise <= 9; promise++) {
            check.test("promise " + promise + ": there is no other row at a range, a required or an order rule");
            QualityGate gate = new QualityGate();
            gate.addRange(0, 0, 0, true);
            gate.addRequired(1, true);
            gate.addOrder(2, 3, true);
            gate.stage(1, M, 1, 0, 0);
            for (int rule = 0; rule < 3; rule++) {
                rejected(gate);
                dueRowRule(gate, 0, rule);
                gate.dropRule(rule);
            }
        }
    }

    private void noOtherAfterAnEarlierOne() {
        check.test("promise 8: a rejection at a row rule takes the place of one with another row");
        QualityGate gate = uniqueAndRequired();
        Gates.stageColumn(gate, 1, 1);
        rejected(gate);
        duePairRule(gate, 1, 0, 0, true);
        gate.discard();
        gate.stage(1, M, 0, 0, 0);
        rejected(gate);
        dueRowRule(gate, 0, 1);
    }

    private void firstAndLastOtherOfTheTable() {
        check.test("promise 8: the first and the last row of a table of 11 rows");
        QualityGate gate = Gates.full();
        gate.addUnique(0, true);
        gate.removeRow(5);
        gate.stage(0, 0, 0, 0, 0);
        rejected(gate);
        duePairRule(gate, 0, 0, 0, false);
        gate.discard();
        gate.stage(11, 0, 0, 0, 0);
        rejected(gate);
        duePairRule(gate, 0, 0, 11, false);
    }

    private void smallestIdOfTheTable() {
        check.test("promise 8: of several rows of the table, the one with the smallest id, which is no position");
        QualityGate gate = Gates.withColumn(4, 3, 4, 3, 4);
        gate.addUnique(0, true);
        gate.stage(4, 0, 0, 0, 0);
        rejected(gate);
        check.due(0, gate.rejectedOther());
        gate.removeRow(0);
        rejected(gate);
        check.due(2, gate.rejectedOther());
        gate.setValue(2, 0, 9);
        rejected(gate);
        check.due(4, gate.rejectedOther());
    }

    private void firstAndLastOtherOfTheBatch() {
        check.test("promise 8: the first and the last staged row before the rejected one");
        QualityGate gate = uniqueAndRequired();
        Gates.stageColumn(gate, 1, 2, 3, 4, 5, 1);
        rejected(gate);
        duePairRule(gate, 5, 0, 0, true);
        gate.discard();
        Gates.stageColumn(gate, 1, 2, 3, 4, 5, 5);
        rejected(gate);
        duePairRule(gate, 5, 0, 4, true);
    }

    private void tableBeforeBatch() {
        check.test("promise 8: a row of the table comes before a staged row with a smaller number");
        QualityGate gate = Gates.withColumn(7, 8, 9);
        gate.addDependency(4, 1, true);
        gate.setValue(0, 2, 5);
        gate.setValue(1, 2, 6);
        gate.setValue(2, 2, 1);
        gate.setValue(2, 1, 30);
        gate.stage(1, 30, 1, 0, 0);
        gate.stage(1, 40, 1, 0, 0);
        rejected(gate);
        duePairRule(gate, 1, 0, 2, false);
        gate.removeRow(2);
        rejected(gate);
        duePairRule(gate, 1, 0, 0, true);
    }

    private void otherStays() {
        check.test("promise 8: the other row stays recorded after it is removed or discarded");
        QualityGate gate = Gates.withColumn(1, 2);
        gate.addUnique(0, true);
        gate.stage(2, 0, 0, 0, 0);
        rejected(gate);
        gate.removeRow(1);
        gate.removeRow(0);
        duePairRule(gate, 0, 0, 1, false);
        gate.discard();
        Gates.stageColumn(gate, 5, 6, 6);
        rejected(gate);
        gate.discard();
        duePairRule(gate, 2, 0, 1, true);
    }

    private void laterRowOfTheBatchIsNotTheOther() {
        check.test("promise 8: a row is not held against a staged row with a greater index");
        QualityGate gate = uniqueAndRequired();
        gate.stage(1, 0, 0, 0, 0);
        gate.stage(2, M, 0, 0, 0);
        gate.stage(1, 0, 0, 0, 0);
        rejected(gate);
        dueRowRule(gate, 1, 1);
    }

    private void otherIsStagedOrNot() {
        check.test("promise 9: the row with the id 0 and the staged row with the index 0");
        QualityGate gate = Gates.withColumn(1);
        gate.addUnique(0, true);
        Gates.stageColumn(gate, 2, 1);
        rejected(gate);
        duePairRule(gate, 1, 0, 0, false);
        gate.discard();
        Gates.stageColumn(gate, 2, 2);
        rejected(gate);
        duePairRule(gate, 1, 0, 0, true);
    }

    private void otherReplacesAnEarlierOne() {
        check.test("promise 9: a later rejection takes the place of an earlier one");
        QualityGate gate = Gates.withColumn(1);
        gate.addUnique(0, true);
        gate.addRequired(1, true);
        Gates.stageColumn(gate, 2, 2);
        rejected(gate);
        check.due(true, gate.isOtherStaged());
        gate.setValue(0, 0, 2);
        rejected(gate);
        duePairRule(gate, 0, 0, 0, false);
        gate.discard();
        gate.stage(3, M, 0, 0, 0);
        rejected(gate);
        check.dueThrow(NoSuchElementException.class, gate::isOtherStaged);
    }
}
