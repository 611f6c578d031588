import java.util.NoSuchElementException;

/** Promises 1 to 5 at their bounds: a new object, staging, commits and what a refused call leaves. */
final class BatchEdgeTest {
    private static final int M = Gates.M;
    private final Check check;

    BatchEdgeTest(Check check) {
        this.check = check;
    }

    void run() {
        newObject();
        stage();
        commitAndTheTable();
        commitAndTheRules();
        discardAndStaged();
    }

    private void newObject() {
        newTableIsEmpty();
        newGateHasNoRules();
        newGateHasNoStagedRows();
        newGateHasNoRejection();
        newGateHasNoProfile();
        newGateHasTheFirstFactor();
        newGateGivesTheIdZero();
        gatesAreApart();
        lastCallThatIsPromised();
    }

    private void stage() {
        valuesOfEachColumn();
        boundsAreKept();
        sixthRowAndSeventh();
        roomAfterCommit();
        roomAfterDiscard();
        noRoomAfterRejection();
        stageBesideFullTable();
        wrongValueBeforeFullBatch();
        stageDoesNotCheckRules();
        refusedStageLeavesTheBatch();
    }

    private void commitAndTheTable() {
        commitOfNoRows();
        commitOfOneRowAndOfSix();
        twelfthRow();
        thirteenthRow();
        roomAfterRemoval();
        fewerRowsAfterDiscard();
        tooManyRowsBeforeRejection();
        refusedCommitLeavesTheRejection();
        refusedCommitGivesNoIds();
        idsByIndices();
    }

    private void commitAndTheRules() {
        rangeRuleAtItsBounds();
        requiredRule();
        orderRule();
        uniqueRule();
        dependencyRule();
        dependencyOfTheEmptySet();
        oneRowDoesNotConflictWithItself();
        rulesThatAreNotStrict();
        droppedRules();
        rowsOfTheTableAreNotChecked();
        valuesAtTheTimeOfTheCommit();
        rejectedCommitKeepsAllRows();
    }

    private void discardAndStaged() {
        discardOfNoRows();
        discardOfSixRows();
        discardLeavesTheRest();
        stagedFromNoneToSix();
        stagedAfterRejection();
    }

    // ---- promise 1

    private void newTableIsEmpty() {
        check.test("promise 1: the table of a new object is empty");
        QualityGate gate = new QualityGate();
        check.due(0, gate.rowCount());
        check.dueThrow(IndexOutOfBoundsException.class, () -> gate.rowAt(0));
        check.dueThrow(NoSuchElementException.class, () -> gate.valueAt(0, 0));
    }

    private void newGateHasNoRules() {
        check.test("promise 1: a new object has no rules");
        QualityGate gate = new QualityGate();
        check.dueThrow(IndexOutOfBoundsException.class, () -> gate.violations(0));
        check.dueThrow(IndexOutOfBoundsException.class, () -> gate.dropRule(0));
        check.due(0, gate.addUnique(4, true));
    }

    private void newGateHasNoStagedRows() {
        check.test("promise 1: a new object has no staged rows");
        QualityGate gate = new QualityGate();
        check.due(0, gate.staged());
        check.due(0, gate.discard());
    }

    private void newGateHasNoRejection() {
        check.test("promise 1: a new object has no rejected commit");
        QualityGate gate = new QualityGate();
        check.dueThrow(NoSuchElementException.class, gate::rejectedRow);
        check.dueThrow(NoSuchElementException.class, gate::rejectedRule);
        check.dueThrow(NoSuchElementException.class, gate::rejectedOther);
        check.dueThrow(NoSuchElementException.class, gate::isOtherStaged);
    }

    private void newGateHasNoProfile() {
        check.test("promise 1: a new object has no saved profile");
        QualityGate gate = Gates.withColumn(1);
        check.dueThrow(NoSuchElementException.class, () -> gate.drift(0));
        check.dueThrow(NoSuchElementException.class, gate::mostDrifted);
    }

    private void newGateHasTheFirstFactor() {
        check.test("promise 1: the factor of a new object is 3");
        check.due(3, new QualityGate().setFactor(9));
    }

    private void newGateGivesTheIdZero() {
        check.test("promise 1: the first id of a new object is 0");
        check.due("0", Gates.ids(Gates.withColumn(7)));
    }

    private void gatesAreApart() {
        check.test("promise 1: a new object holds nothing of another one");
        String before = new Look(new QualityGate()).all();
        QualityGate used = Gates.withColumn(1, 2);
        used.saveProfile();
        used.setFactor(9);
        used.addRequired(0, true);
        used.stage(M, 0, 0, 0, 0);
        check.dueThrow(UnsupportedOperationException.class, used::commit);
        QualityGate fresh = new QualityGate();
        check.due(before, new Look(fresh).all());
        check.due(3, fresh.setFactor(1));
        check.due(9, used.setFactor(9));
        check.due(2, used.rowCount());
        check.due(1, used.staged());
    }

    private void lastCallThatIsPromised() {
        check.test("promise 1: an object answers up to its 512th call");
        QualityGate gate = new QualityGate();
        for (int id = 0; id < 169; id++) {
            gate.stage(id % 100, 0, 0, 0, 0);
            gate.commit();
            gate.removeRow(id);
        }
        // 507 calls up to here, and five more
        gate.stage(7, 0, 0, 0, 0);
        check.due(1, gate.commit());
        check.due(169, gate.rowAt(0));
        check.due(7, gate.valueAt(169, 0));
        check.due(0, gate.removeRow(169));
    }

    // ---- promise 2

    private void valuesOfEachColumn() {
        check.test("promise 2: values from -99 to 99 and MISSING in each column");
        for (int column = 0; column < 5; column++) {
            int at = column;
            check.dueFromTo(-99, M, IllegalArgumentException.class, value -> stageAt(new QualityGate(), at, value));
        }
    }

    private static Object stageAt(QualityGate gate, int column, int value) {
        int[] row = new int[5];
        row[column] = value;
        return gate.stage(row[0], row[1], row[2], row[3], row[4]);
    }

    private void boundsAreKept() {
        check.test("promise 2: the lowest and the highest value and MISSING are kept as they are");
        QualityGate gate = new QualityGate();
        gate.stage(-99, 99, M, -99, 99);
        gate.stage(M, -99, 99, M, -99);
        gate.commit();
        check.due("-99 99 100 -99 99", Gates.values(gate, 0));
        check.due("100 -99 99 100 -99", Gates.values(gate, 1));
    }

    private void sixthRowAndSeventh() {
        check.test("promise 2: the sixth row is staged, and the seventh is not");
        QualityGate gate = new QualityGate();
        Gates.stageColumn(gate, 0, 1, 2, 3, 4);
        check.due(6, gate.stage(5, 0, 0, 0, 0));
        check.dueThrow(IllegalStateException.class, () -> gate.stage(6, 0, 0, 0, 0));
        check.dueThrow(IllegalStateException.class, () -> gate.stage(7, 0, 0, 0, 0));
        check.due(6, gate.staged());
    }

    private void roomAfterCommit() {
        check.test("promise 2: there is room again after a commit");
        QualityGate gate = new QualityGate();
        Gates.fillBatch(gate);
        gate.commit();
        for (int i = 1; i <= 6; i++) {
            check.due(i, gate.stage(i, 0, 0, 0, 0));
        }
        check.dueThrow(IllegalStateException.class, () -> gate.stage(7, 0, 0, 0, 0));
    }

    private void roomAfterDiscard() {
        check.test("promise 2: there is room again after a discard");
        QualityGate gate = new QualityGate();
        Gates.fillBatch(gate);
        gate.discard();
        check.due(1, gate.stage(1, 0, 0, 0, 0));
    }

    private void noRoomAfterRejection() {
        check.test("promise 2: there is no room after a rejected commit of six rows");
        QualityGate gate = new QualityGate();
        gate.addUnique(0, true);
        Gates.fillBatch(gate);
        check.dueThrow(UnsupportedOperationException.class, gate::commit);
        check.dueThrow(IllegalStateException.class, () -> gate.stage(1, 0, 0, 0, 0));
    }

    private void stageBesideFullTable() {
        check.test("promise 2: rows are staged beside a full table");
        QualityGate gate = Gates.full();
        for (int i = 1; i <= 6; i++) {
            check.due(i, gate.stage(i, 0, 0, 0, 0));
        }
    }

    private void wrongValueBeforeFullBatch() {
        check.test("promise 2: a value out of range comes before a full batch");
        QualityGate gate = new QualityGate();
        Gates.fillBatch(gate);
        for (int column = 0; column < 5; column++) {
            int at = column;
            check.dueThrow(IllegalArgumentException.class, () -> stageAt(gate, at, -100));
            check.dueThrow(IllegalArgumentException.class, () -> stageAt(gate, at, 101));
            check.dueThrow(IllegalStateException.class, () -> stageAt(gate, at, -99));
            check.dueThrow(IllegalStateException.class, () -> stageAt(gate, at, 100));
        }
    }

    private void stageDoesNotCheckRules() {
        check.test("promise 2: strict rules do not hold a row back that is staged");
        QualityGate gate = new QualityGate();
        gate.addRequired(0, true);
        gate.addUnique(1, true);
        check.due(1, gate.stage(M, 0, 0, 0, 0));
        check.due(2, gate.stage(M, 0, 0, 0, 0));
    }

    private void refusedStageLeavesTheBatch() {
        check.test("promise 2: a refused row is not in the batch");
        QualityGate gate = new QualityGate();
        Gates.stageColumn(gate, 0, 1, 2);
        check.dueThrow(IllegalArgumentException.class, () -> gate.stage(9, 9, 9, 9, 101));
        Gates.stageColumn(gate, 3, 4, 5);
        check.dueThrow(IllegalStateException.class, () -> gate.stage(9, 9, 9, 9, 9));
        check.due(6, gate.commit());
        for (int id = 0; id < 6; id++) {
            check.due(id + " 0 0 0 0", Gates.values(gate, id));
        }
    }

    // ---- promise 3: the table

    private void commitOfNoRows() {
        check.test("promise 3: a commit without staged rows");
        QualityGate gate = new QualityGate();
        check.dueThrow(IllegalStateException.class, gate::commit);
        Gates.stageColumn(gate, 1, 2);
        gate.commit();
        check.dueThrow(IllegalStateException.class, gate::commit);
        Gates.stageColumn(gate, 3, 4);
        gate.discard();
        check.dueThrow(IllegalStateException.class, gate::commit);
        check.due("0 1", Gates.ids(gate));
        check.dueThrow(IllegalStateException.class, Gates.full()::commit);
    }

    private void commitOfOneRowAndOfSix() {
        check.test("promise 3: a commit of one row and of a full batch");
        QualityGate gate = new QualityGate();
        gate.stage(1, 0, 0, 0, 0);
        check.due(1, gate.commit());
        check.due(0, gate.staged());
        Gates.fillBatch(gate);
        check.due(7, gate.commit());
        check.due(0, gate.staged());
    }

    private void twelfthRow() {
        check.test("promise 3: the table takes 12 rows");
        for (int rows = 6; rows < 12; rows++) {
            QualityGate gate = holding(rows);
            for (int i = rows; i < 12; i++) {
                gate.stage(i, 0, 0, 0, 0);
            }
            check.due(12, gate.commit());
            check.due(12, gate.rowCount());
            check.due("11 0 0 0 0", Gates.values(gate, 11));
        }
    }

    private void thirteenthRow() {
        check.test("promise 3: the table does not take 13 rows");
        for (int rows = 7; rows <= 12; rows++) {
            QualityGate gate = holding(rows);
            for (int i = rows; i < 13; i++) {
                gate.stage(i, 0, 0, 0, 0);
            }
            check.dueThrow(IllegalStateException.class, gate::commit);
            check.due(rows, gate.rowCount());
            check.due(13 - rows, gate.staged());
        }
        QualityGate both = Gates.full();
        Gates.fillBatch(both);
        check.dueThrow(IllegalStateException.class, both::commit);
    }

    private static QualityGate holding(int rows) {
        QualityGate gate = new QualityGate();
        for (int i = 0; i < rows; i++) {
            Gates.add(gate, Gates.row(i, 0, 0, 0, 0));
        }
        return gate;
    }

    private void roomAfterRemoval() {
        check.test("promise 3: a full table takes a row after a removal");
        QualityGate gate = Gates.full();
        gate.stage(50, 0, 0, 0, 0);
        check.dueThrow(IllegalStateException.class, gate::commit);
        gate.removeRow(11);
        check.due(12, gate.commit());
        check.due("0 1 2 3 4 5 6 7 8 9 10 12", Gates.ids(gate));
    }

    private void fewerRowsAfterDiscard() {
        check.test("promise 3: fewer rows are taken after too many were refused");
        QualityGate gate = holding(11);
        Gates.stageColumn(gate, 20, 21);
        check.dueThrow(IllegalStateException.class, gate::commit);
        gate.discard();
        gate.stage(22, 0, 0, 0, 0);
        check.due(12, gate.commit());
        check.due("22 0 0 0 0", Gates.values(gate, 11));
    }

    private void tooManyRowsBeforeRejection() {
        check.test("promise 3: too many rows come before a rule that rejects");
        QualityGate gate = Gates.full();
        gate.addUnique(0, true);
        gate.stage(0, 0, 0, 0, 0);
        check.dueThrow(IllegalStateException.class, gate::commit);
        check.dueThrow(NoSuchElementException.class, gate::rejectedRow);
        gate.removeRow(11);
        check.dueThrow(UnsupportedOperationException.class, gate::commit);
        check.due(0, gate.rejectedRow());
    }

    private void refusedCommitLeavesTheRejection() {
        check.test("promise 3: a commit that is not rejected leaves the recorded rejection");
        QualityGate gate = holding(11);
        gate.addUnique(0, true);
        Gates.stageColumn(gate, 30, 30);
        gate.removeRow(10);
        check.dueThrow(UnsupportedOperationException.class, gate::commit);
        gate.discard();
        check.dueThrow(IllegalStateException.class, gate::commit);
        check.due("1 0 0 true", Gates.rejection(gate));
        Gates.stageColumn(gate, 5, 5, 5);
        check.dueThrow(IllegalStateException.class, gate::commit);
        check.due("1 0 0 true", Gates.rejection(gate));
        gate.discard();
        gate.stage(31, 0, 0, 0, 0);
        check.due(11, gate.commit());
        check.due("1 0 0 true", Gates.rejection(gate));
    }

    private void refusedCommitGivesNoIds() {
        check.test("promise 3: refused and rejected commits give no ids");
        QualityGate gate = holding(10);
        int rule = gate.addUnique(0, true);
        Gates.stageColumn(gate, 30, 30);
        check.dueThrow(UnsupportedOperationException.class, gate::commit);
        gate.stage(31, 0, 0, 0, 0);
        check.dueThrow(IllegalStateException.class, gate::commit);
        gate.discard();
        check.dueThrow(IllegalStateException.class, gate::commit);
        gate.dropRule(rule);
        Gates.stageColumn(gate, 30, 30);
        check.due(12, gate.commit());
        check.due("0 1 2 3 4 5 6 7 8 9 10 11", Gates.ids(gate));
    }

    private void idsByIndices() {
        check.test("promise 3: ids are given in the order of the indices");
        QualityGate gate = new QualityGate();
        Gates.stageColumn(gate, 9, -3, 7, M, 5, 9);
        gate.commit();
        check.due("0 1 2 3 4 5", Gates.ids(gate));
        int[] values = {9, -3, 7, M, 5, 9};
        for (int id = 0; id < 6; id++) {
            check.due(values[id], gate.valueAt(id, 0));
        }
    }

    // ---- promise 3: the rules

    /** The outcome of a commit of this row into a new table, beside a strict rule that is there already. */
    private static Object commitOf(QualityGate gate, int... row) {
        gate.stage(row[0], row[1], row[2], row[3], row[4]);
        return Check.ownOutcome(gate::commit);
    }

    private void dueTaken(QualityGate gate, int... row) {
        int before = gate.rowCount();
        check.due(before + 1, commitOf(gate, row));
    }

    private void dueRejected(QualityGate gate, int... row) {
        check.due("throws.UnsupportedOperationException", commitOf(gate, row));
        gate.discard();
    }

    private void rangeRuleAtItsBounds() {
        check.test("promise 3: a range rule at its bounds");
        QualityGate gate = new QualityGate();
        gate.addRange(4, -2, 5, true);
        dueRejected(gate, 0, 0, 0, 0, -3);
        dueTaken(gate, 0, 0, 0, 0, -2);
        dueTaken(gate, 0, 0, 0, 0, 5);
        dueRejected(gate, 0, 0, 0, 0, 6);
        dueTaken(gate, 9, 9, 9, 9, M);
        dueRejected(gate, 0, 0, 0, 0, -99);
        dueRejected(gate, 0, 0, 0, 0, 99);
    }

    private void requiredRule() {
        check.test("promise 3: a required rule");
        QualityGate gate = new QualityGate();
        gate.addRequired(0, true);
        dueRejected(gate, M, 0, 0, 0, 0);
        dueTaken(gate, 99, M, M, M, M);
        dueTaken(gate, -99, M, M, M, M);
    }

    private void orderRule() {
        check.test("promise 3: an order rule with equal, greater and missing values");
        QualityGate gate = new QualityGate();
        gate.addOrder(3, 1, true);
        dueTaken(gate, 0, 7, 0, 7, 0);
        dueTaken(gate, 0, 7, 0, 6, 0);
        dueRejected(gate, 0, 7, 0, 8, 0);
        dueTaken(gate, 0, M, 0, 99, 0);
        dueTaken(gate, 0, -99, 0, M, 0);
        dueTaken(gate, 0, M, 0, M, 0);
        dueRejected(gate, 0, -99, 0, 99, 0);
    }

    private void uniqueRule() {
        check.test("promise 3: a unique rule with equal, different and missing values");
        QualityGate gate = new QualityGate();
        gate.addUnique(2, true);
        dueTaken(gate, 0, 0, -99, 0, 0);
        dueRejected(gate, 1, 1, -99, 1, 1);
        dueTaken(gate, 0, 0, -98, 0, 0);
        dueTaken(gate, 0, 0, M, 0, 0);
        dueTaken(gate, 0, 0, M, 0, 0);
        dueRejected(gate, 1, 1, -98, 1, 1);
    }

    private void dependencyRule() {
        check.test("promise 3: a dependency rule, by which two MISSING are equal");
        QualityGate gate = new QualityGate();
        gate.addDependency(5, 1, true);
        dueTaken(gate, M, 4, 0, 0, 0);
        dueRejected(gate, M, 5, 0, 0, 0);
        dueRejected(gate, M, M, 0, 0, 0);
        dueTaken(gate, M, 4, 0, 9, 9);
        dueTaken(gate, M, 5, 1, 0, 0);
        dueTaken(gate, 0, M, 0, 0, 0);
        dueTaken(gate, 0, M, 0, 1, 1);
        dueRejected(gate, 0, 4, 0, 0, 0);
    }

    private void dependencyOfTheEmptySet() {
        check.test("promise 3: a dependency rule with the empty set");
        QualityGate gate = new QualityGate();
        gate.addDependency(0, 4, true);
        dueTaken(gate, 1, 1, 1, 1, M);
        dueTaken(gate, 2, 2, 2, 2, M);
        dueRejected(gate, 1, 1, 1, 1, 1);
    }

    private void oneRowDoesNotConflictWithItself() {
        check.test("promise 3: a row is held against others, not against itself");
        QualityGate gate = new QualityGate();
        for (int column = 0; column < 5; column++) {
            gate.addUnique(column, true);
            gate.addDependency(0, column, true);
        }
        dueTaken(gate, 1, 1, 1, 1, 1);
    }

    private void rulesThatAreNotStrict() {
        check.test("promise 3: rules that are not strict do not reject");
        QualityGate gate = Gates.withColumn(1);
        gate.addRange(0, 2, 2, false);
        gate.addRequired(1, false);
        gate.addOrder(2, 3, false);
        gate.addUnique(0, false);
        gate.addDependency(0, 4, false);
        dueTaken(gate, 1, M, 9, 8, 7);
    }

    private void droppedRules() {
        check.test("promise 3: dropped rules do not reject");
        QualityGate gate = Gates.withColumn(1);
        gate.addRange(0, 2, 2, true);
        gate.addRequired(1, true);
        gate.addOrder(2, 3, true);
        gate.addUnique(0, true);
        gate.addDependency(0, 4, true);
        for (int rule = 0; rule < 5; rule++) {
            dueRejected(gate, 1, M, 9, 8, 7);
            check.due(rule, gate.rejectedRule());
            gate.dropRule(rule);
        }
        dueTaken(gate, 1, M, 9, 8, 7);
    }

    private void rowsOfTheTableAreNotChecked() {
        check.test("promise 3: rows of the table that break strict rules do not reject other rows");
        QualityGate gate = Gates.withColumn(M, 5, 5);
        gate.addRequired(0, true);
        gate.addUnique(0, true);
        dueTaken(gate, 6, 0, 0, 0, 0);
        dueRejected(gate, 5, 0, 0, 0, 0);
        check.due(1, gate.rejectedOther());
    }

    private void valuesAtTheTimeOfTheCommit() {
        check.test("promise 3: rows are held against the table as it is when they are committed");
        QualityGate gate = Gates.withColumn(1, 2);
        gate.addUnique(0, true);
        gate.stage(3, 0, 0, 0, 0);
        gate.setValue(1, 0, 3);
        check.dueThrow(UnsupportedOperationException.class, gate::commit);
        gate.removeRow(1);
        check.due(2, gate.commit());
    }

    private void rejectedCommitKeepsAllRows() {
        check.test("promise 3: of a rejected commit all rows stay staged, and none is added");
        QualityGate gate = Gates.full();
        for (int id = 0; id < 6; id++) {
            gate.removeRow(id);
        }
        int rule = gate.addUnique(0, true);
        Gates.stageColumn(gate, 20, 21, 22, 23, 24, 11);
        check.dueThrow(UnsupportedOperationException.class, gate::commit);
        check.due(6, gate.staged());
        check.due("6 7 8 9 10 11", Gates.ids(gate));
        check.dueThrow(UnsupportedOperationException.class, gate::commit);
        gate.dropRule(rule);
        check.due(12, gate.commit());
        check.due("20 0 0 0 0", Gates.values(gate, 12));
        check.due("11 0 0 0 0", Gates.values(gate, 17));
    }

    // ---- promises 4 and 5

    private void discardOfNoRows() {
        check.test("promise 4: a discard without staged rows");
        QualityGate gate = Gates.withColumn(1);
        check.due(0, gate.discard());
        gate.stage(1, 0, 0, 0, 0);
        check.due(1, gate.discard());
        check.due(0, gate.discard());
    }

    private void discardOfSixRows() {
        check.test("promise 4: a discard of a full batch");
        QualityGate gate = new QualityGate();
        Gates.fillBatch(gate);
        check.due(6, gate.discard());
        check.due(0, gate.staged());
        check.dueThrow(IllegalStateException.class, gate::commit);
    }

    private void discardLeavesTheRest() {
        check.test("promise 4: a discard leaves the table, the ids and the rejection");
        QualityGate gate = Gates.withColumn(1, 2);
        gate.addUnique(0, true);
        Gates.stageColumn(gate, 3, 2);
        check.dueThrow(UnsupportedOperationException.class, gate::commit);
        check.due(2, gate.discard());
        check.due("0 1", Gates.ids(gate));
        check.due("1 0 1 false", Gates.rejection(gate));
        gate.stage(3, 0, 0, 0, 0);
        check.due(3, gate.commit());
        check.due("0 1 2", Gates.ids(gate));
    }

    private void stagedFromNoneToSix() {
        check.test("promise 5: staged rows from none to six");
        QualityGate gate = new QualityGate();
        for (int i = 0; i < 6; i++) {
            check.due(i, gate.staged());
            gate.stage(0, 0, 0, 0, 0);
        }
        check.due(6, gate.staged());
        gate.commit();
        check.due(0, gate.staged());
    }

    private void stagedAfterRejection() {
        check.test("promise 5: the staged rows of a rejected and of a refused commit");
        QualityGate gate = Gates.full();
        gate.addRequired(0, true);
        gate.stage(M, 0, 0, 0, 0);
        check.dueThrow(IllegalStateException.class, gate::commit);
        check.due(1, gate.staged());
        gate.removeRow(0);
        check.dueThrow(UnsupportedOperationException.class, gate::commit);
        check.due(1, gate.staged());
    }
}
