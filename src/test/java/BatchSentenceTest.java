import java.util.NoSuchElementException;

/** The sentences of the promises 1 to 9. */
final class BatchSentenceTest {
    private static final int M = Gates.M;
    private static final int[] WRONG_VALUES = {-100, 101, 127, 128, -128, 356, Integer.MIN_VALUE, Integer.MAX_VALUE};

    private final Check check;
    private final Sentences document;

    BatchSentenceTest(Check check, Sentences document) {
        this.check = check;
        this.document = document;
    }

    void run() {
        newObject();
        stage();
        commit();
        discard();
        staged();
        rejectedRow();
        rejectedRule();
        rejectedOther();
        isOtherStaged();
    }

    private void newObject() {
        document.section("promise 1");
        document.says("Creates a gate with an empty table and without rules.");
        QualityGate used = Gates.full();
        used.addRequired(0, true);
        used.setFactor(9);
        used.saveProfile();
        Gates.fillBatch(used);
        QualityGate gate = new QualityGate();
        check.due(0, gate.rowCount());
        check.due(0, gate.staged());
        check.due(0, gate.groups());
        check.dueThrow(IndexOutOfBoundsException.class, () -> gate.rowAt(0));
        check.dueThrow(IndexOutOfBoundsException.class, () -> gate.violations(0));
        check.dueThrow(IndexOutOfBoundsException.class, () -> gate.dropRule(0));
        check.dueThrow(NoSuchElementException.class, gate::rejectedRule);
        check.dueThrow(NoSuchElementException.class, gate::mostDrifted);
        check.due(3, gate.setFactor(3));
        check.due(0, gate.addRequired(1, true));
        gate.stage(M, 1, M, M, M);
        check.due(1, gate.commit());
        check.due(0, gate.rowAt(0));
    }

    // ---- promise 2

    private void stage() {
        document.section("promise 2");
        document.says("Stages a row.");
        QualityGate gate = new QualityGate();
        gate.addRequired(0, true);
        gate.stage(M, 1, 2, 3, 4);
        check.due(1, gate.staged());
        check.due(0, gate.rowCount());
        check.dueThrow(NoSuchElementException.class, () -> gate.valueAt(0, 0));
        check.dueThrow(UnsupportedOperationException.class, gate::commit);
        gate.dropRule(0);
        gate.commit();
        check.due("100 1 2 3 4", Gates.values(gate, 0));
        stageValue("- `a`: the value in column 0, -99 to 99 or MISSING", 0);
        stageValue("- `b`: the value in column 1, -99 to 99 or MISSING", 1);
        stageValue("- `c`: the value in column 2, -99 to 99 or MISSING", 2);
        stageValue("- `d`: the value in column 3, -99 to 99 or MISSING", 3);
        stageValue("- `e`: the value in column 4, -99 to 99 or MISSING", 4);
        stageAnswer();
        stageThrows();
    }

    private static int stageWith(QualityGate gate, int column, int value) {
        int[] row = {11, 12, 13, 14, 15};
        row[column] = value;
        return gate.stage(row[0], row[1], row[2], row[3], row[4]);
    }

    private void stageValue(String sentence, int column) {
        document.says(sentence);
        for (int value = -99; value <= M; value++) {
            QualityGate gate = new QualityGate();
            stageWith(gate, column, value);
            gate.commit();
            for (int at = 0; at < 5; at++) {
                check.due(at == column ? value : 11 + at, gate.valueAt(0, at));
            }
        }
        for (int wrong : WRONG_VALUES) {
            check.dueThrow(IllegalArgumentException.class, () -> stageWith(new QualityGate(), column, wrong));
        }
    }

    private void stageAnswer() {
        document.says("Returns the number of staged rows after the call.");
        QualityGate gate = Gates.withColumn(1, 2, 3);
        for (int rows = 1; rows <= 6; rows++) {
            check.due(rows, gate.stage(M, M, M, M, M));
            check.due(rows, gate.staged());
        }
        gate.discard();
        check.due(1, gate.stage(0, 0, 0, 0, 0));
        gate.commit();
        check.due(1, gate.stage(0, 0, 0, 0, 0));
        check.due(2, gate.stage(0, 0, 0, 0, 0));
    }

    private void stageThrows() {
        document.says("Throws `IllegalArgumentException` if a value is out of range");
        QualityGate gate = new QualityGate();
        for (int column = 0; column < 5; column++) {
            int at = column;
            for (int wrong : WRONG_VALUES) {
                check.dueThrow(IllegalArgumentException.class, () -> stageWith(gate, at, wrong));
            }
        }
        check.dueThrow(IllegalArgumentException.class, () -> gate.stage(101, 101, 101, 101, 101));
        check.due(0, gate.staged());
        check.due(1, gate.stage(-99, 99, M, 99, -99));

        document.says("Throws `IllegalStateException` if 6 rows are staged");
        check.due(2, gate.stage(0, 0, 0, 0, 0));
        Gates.fillBatch(gate);
        check.dueThrow(IllegalStateException.class, () -> gate.stage(0, 0, 0, 0, 0));
        check.dueThrow(IllegalStateException.class, () -> gate.stage(M, M, M, M, M));
        check.due(6, gate.staged());
        check.due(6, gate.commit());
        check.due(1, gate.stage(0, 0, 0, 0, 0));
    }

    // ---- promise 3

    private void commit() {
        document.section("promise 3");
        commitAdds();
        commitThrowsOfNumbers();
        commitThrowsOfRejection();
    }

    private void commitAdds() {
        document.says("Commits the staged rows.");
        QualityGate gate = Gates.with(Gates.row(1, 2, 3, 4, 5));
        gate.addUnique(0, true);
        gate.stage(6, M, 7, 8, -9);
        gate.stage(-1, -2, -3, -4, M);
        gate.commit();
        check.due("0 1 2", Gates.ids(gate));
        check.due("1 2 3 4 5", Gates.values(gate, 0));
        check.due("6 100 7 8 -9", Gates.values(gate, 1));
        check.due("-1 -2 -3 -4 100", Gates.values(gate, 2));

        document.says("After that, no rows are staged.");
        check.due(0, gate.staged());
        check.due(0, gate.discard());
        check.dueThrow(IllegalStateException.class, gate::commit);
        gate.setValue(1, 1, 55);
        gate.stage(9, 9, 9, 9, 9);
        check.due(4, gate.commit());
        check.due("9 9 9 9 9", Gates.values(gate, 3));
        check.due("6 55 7 8 -9", Gates.values(gate, 1));

        document.says("Returns the number of rows of the table after the call.");
        QualityGate counted = new QualityGate();
        counted.stage(1, 1, 1, 1, 1);
        check.due(1, counted.commit());
        Gates.stageColumn(counted, 1, 2, 3);
        check.due(4, counted.commit());
        counted.removeRow(0);
        Gates.fillBatch(counted);
        check.due(9, counted.commit());
        Gates.stageColumn(counted, 1, 2, 3);
        check.due(12, counted.commit());
        check.due(12, counted.rowCount());
    }

    private void commitThrowsOfNumbers() {
        document.says("Throws `IllegalStateException` if no rows are staged, or the table would have more than 12"
                + " rows");
        check.dueThrow(IllegalStateException.class, new QualityGate()::commit);
        check.dueThrow(IllegalStateException.class, Gates.full()::commit);
        QualityGate rejected = strict();
        rejected.stage(1, 0, 0, 0, 0);
        rejected(rejected);
        rejected.discard();
        check.dueThrow(IllegalStateException.class, rejected::commit);
        for (int rows = 0; rows <= 12; rows++) {
            for (int more = 1; more <= 6; more++) {
                QualityGate gate = new QualityGate();
                for (int row = 0; row < rows; row++) {
                    Gates.add(gate, Gates.row(row, 0, 0, 0, 0));
                }
                for (int row = 0; row < more; row++) {
                    gate.stage(M, 0, 0, 0, 0);
                }
                int after = rows + more;
                check.due(after <= 12 ? (Object) after : "throws.IllegalStateException",
                        Check.ownOutcome(gate::commit));
                check.due(after <= 12 ? after : rows, gate.rowCount());
                check.due(after <= 12 ? 0 : more, gate.staged());
            }
        }
    }

    private void commitThrowsOfRejection() {
        document.says("Throws `UnsupportedOperationException` if the commit is rejected; the staged rows stay, and"
                + " the rejection is recorded in place of an earlier one");
        QualityGate gate = Gates.with(Gates.row(5, 5, 5, 5, 5));
        gate.addRequired(1, true);
        gate.addUnique(0, true);
        gate.stage(1, 1, 1, 1, 1);
        gate.stage(5, 2, 2, 2, 2);
        gate.stage(3, M, 3, 3, 3);
        check.dueThrow(UnsupportedOperationException.class, gate::commit);
        check.due("1 1 0 false", Gates.rejection(gate));
        check.due(3, gate.staged());
        check.due(1, gate.rowCount());
        check.dueThrow(NoSuchElementException.class, () -> gate.valueAt(1, 0));
        gate.setValue(0, 0, 1);
        check.dueThrow(UnsupportedOperationException.class, gate::commit);
        check.due("0 1 0 false", Gates.rejection(gate));
        gate.dropRule(1);
        check.dueThrow(UnsupportedOperationException.class, gate::commit);
        check.due("2 0", gate.rejectedRow() + " " + gate.rejectedRule());
        check.dueThrow(NoSuchElementException.class, gate::rejectedOther);
        gate.dropRule(0);
        check.due(4, gate.commit());
        check.due("1 1 1 1 1", Gates.values(gate, 1));
        check.due("3 100 3 3 3", Gates.values(gate, 3));
    }

    // ---- promises 4 and 5

    private void discard() {
        document.section("promise 4");
        document.says("Discards all staged rows.");
        QualityGate gate = Gates.withColumn(1, 2);
        Gates.stageColumn(gate, 3, 4, 5);
        gate.discard();
        check.due(0, gate.staged());
        check.dueThrow(IllegalStateException.class, gate::commit);
        check.due("0 1", Gates.ids(gate));
        gate.stage(6, 0, 0, 0, 0);
        check.due(3, gate.commit());
        check.due("6 0 0 0 0", Gates.values(gate, 2));

        document.says("Returns the number of rows that were staged.");
        check.due(0, gate.discard());
        for (int rows = 0; rows <= 6; rows++) {
            for (int row = 0; row < rows; row++) {
                gate.stage(0, 0, 0, 0, 0);
            }
            check.due(rows, gate.discard());
        }
        check.due(0, gate.discard());
    }

    private void staged() {
        document.section("promise 5");
        document.says("Returns the number of staged rows.");
        QualityGate gate = Gates.withColumn(1, 2);
        for (int rows = 0; rows < 6; rows++) {
            check.due(rows, gate.staged());
            gate.stage(1, 0, 0, 0, 0);
        }
        check.due(6, gate.staged());
        check.due(6, gate.staged());

        document.says("Returns the number of staged rows.");
        gate.addUnique(0, true);
        Check.outcome(gate::commit);
        check.due(6, gate.staged());
        gate.discard();
        check.due(0, gate.staged());
        gate.stage(9, 0, 0, 0, 0);
        gate.removeRow(0);
        check.due(1, gate.staged());
        gate.commit();
        check.due(0, gate.staged());
        check.due(2, gate.rowCount());
    }

    // ---- promises 6 to 9

    /** A gate with the rows 1, 2 and 3 in column 0, which is unique by rule 1; rule 2 requires column 1. */
    private static QualityGate strict() {
        QualityGate gate = Gates.withColumn(1, 2, 3);
        gate.addRange(0, 0, 9, false);
        gate.addUnique(0, true);
        gate.addRequired(1, true);
        return gate;
    }

    private void rejected(QualityGate gate) {
        check.dueThrow(UnsupportedOperationException.class, gate::commit);
    }

    private void rejectedRow() {
        document.section("promise 6");
        document.says("Returns the index of the staged row at which the latest rejected commit was rejected.");
        for (int index = 0; index < 6; index++) {
            QualityGate gate = strict();
            for (int row = 0; row < 6; row++) {
                gate.stage(20 + row, row == index || row == 5 ? M : 0, 0, 0, 0);
            }
            rejected(gate);
            check.due(index, gate.rejectedRow());
        }
        QualityGate latest = strict();
        Gates.stageColumn(latest, 7, 7);
        rejected(latest);
        check.due(1, latest.rejectedRow());
        latest.setValue(0, 0, 7);
        rejected(latest);
        check.due(0, latest.rejectedRow());

        document.says("Returns the index that it had.");
        QualityGate gate = strict();
        Gates.stageColumn(gate, 6, 7, 8, 7);
        rejected(gate);
        gate.discard();
        check.due(3, gate.rejectedRow());
        gate.stage(50, 0, 0, 0, 0);
        check.due(4, gate.commit());
        check.due(3, gate.rejectedRow());
        noneRejected(QualityGate::rejectedRow);
    }

    private interface GateCall {
        Object on(QualityGate gate);
    }

    private void noneRejected(GateCall call) {
        document.says("Throws `NoSuchElementException` if no commit was rejected");
        dueNone(call);
    }

    private void dueNone(GateCall call) {
        check.dueThrow(NoSuchElementException.class, () -> call.on(new QualityGate()));
        QualityGate gate = strict();
        check.dueThrow(IllegalStateException.class, gate::commit);
        check.dueThrow(NoSuchElementException.class, () -> call.on(gate));
        gate.stage(50, 0, 0, 0, 0);
        gate.commit();
        check.dueThrow(NoSuchElementException.class, () -> call.on(gate));
        gate.stage(1, M, 0, 0, 0);
        gate.discard();
        check.dueThrow(NoSuchElementException.class, () -> call.on(gate));
        QualityGate full = Gates.full();
        full.addUnique(0, true);
        full.stage(0, 0, 0, 0, 0);
        check.dueThrow(IllegalStateException.class, full::commit);
        check.dueThrow(NoSuchElementException.class, () -> call.on(full));
    }

    private void rejectedRule() {
        document.section("promise 7");
        document.says("Returns the rule at which the latest rejected commit was rejected.");
        QualityGate gate = strict();
        gate.stage(1, M, 0, 0, 0);
        rejected(gate);
        check.due(1, gate.rejectedRule());
        gate.setValue(0, 0, 11);
        rejected(gate);
        check.due(2, gate.rejectedRule());
        gate.setValue(0, 0, 1);
        rejected(gate);
        check.due(1, gate.rejectedRule());

        document.says("Returns the number of the rule.");
        for (int number = 0; number < 10; number++) {
            QualityGate ten = new QualityGate();
            for (int rule = 0; rule < 10; rule++) {
                ten.addRange(0, rule == number ? 1 : 0, 9, true);
            }
            ten.stage(0, 0, 0, 0, 0);
            rejected(ten);
            check.due(number, ten.rejectedRule());
            ten.dropRule(number);
            check.due(number, ten.rejectedRule());
            check.due(1, ten.commit());
        }
        noneRejected(QualityGate::rejectedRule);
    }

    private void rejectedOther() {
        document.section("promise 8");
        document.says("Returns the other row of the latest rejection.");
        QualityGate gate = strict();
        Gates.stageColumn(gate, 8, 3);
        rejected(gate);
        check.due(2, gate.rejectedOther());
        gate.setValue(1, 0, 8);
        rejected(gate);
        check.due(1, gate.rejectedOther());

        document.says("Returns its id, if it was a row of the table; otherwise, the index that it had.");
        gate.removeRow(0);
        gate.removeRow(1);
        check.due(1, gate.rejectedOther());
        rejected(gate);
        check.due(2, gate.rejectedOther());
        gate.discard();
        Gates.stageColumn(gate, 11, 12, 13, 12);
        rejected(gate);
        gate.discard();
        check.due(1, gate.rejectedOther());
        Gates.stageColumn(gate, 11, 12, 13, 14, 15, 15);
        rejected(gate);
        check.due(4, gate.rejectedOther());
        check.due(5, gate.rejectedRow());
        noneOrRowRule(QualityGate::rejectedOther);
    }

    private void isOtherStaged() {
        document.section("promise 9");
        document.says("Tells whether the other row of the latest rejection was a staged row.");
        QualityGate gate = strict();
        Gates.stageColumn(gate, 8, 8);
        rejected(gate);
        check.due(true, gate.isOtherStaged());
        gate.setValue(0, 0, 8);
        rejected(gate);
        check.due(false, gate.isOtherStaged());

        document.says("Returns true if it was staged, false if it was a row of the table.");
        gate.setValue(0, 0, 1);
        rejected(gate);
        check.due(true, gate.isOtherStaged());
        gate.discard();
        check.due(true, gate.isOtherStaged());
        gate.stage(1, 0, 0, 0, 0);
        rejected(gate);
        gate.removeRow(0);
        check.due(false, gate.isOtherStaged());
        check.due(3, gate.commit());
        check.due(false, gate.isOtherStaged());
        noneOrRowRule(QualityGate::isOtherStaged);
    }

    private void noneOrRowRule(GateCall call) {
        document.says("Throws `NoSuchElementException` if no commit was rejected, or the latest rejection was at a"
                + " row rule");
        dueNone(call);
        QualityGate gate = new QualityGate();
        gate.addRange(0, 0, 0, true);
        gate.addRequired(1, true);
        gate.addOrder(2, 3, true);
        gate.addUnique(4, true);
        gate.stage(0, 0, 0, 0, 0);
        gate.stage(0, 0, 0, 0, 0);
        rejected(gate);
        check.due(false, Check.outcome(() -> call.on(gate)).toString().startsWith("throws."));
        gate.discard();
        gate.stage(1, M, 1, 0, 0);
        for (int rule = 0; rule < 3; rule++) {
            rejected(gate);
            check.due(rule, gate.rejectedRule());
            check.dueThrow(NoSuchElementException.class, () -> call.on(gate));
            gate.dropRule(rule);
        }
        check.due(1, gate.commit());
        check.dueThrow(NoSuchElementException.class, () -> call.on(gate));
    }
}
