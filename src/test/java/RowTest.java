import java.util.NoSuchElementException;

/** Promises 10 to 14: the rows of the table. */
final class RowTest {
    private static final int M = Gates.M;
    private final Check check;

    RowTest(Check check) {
        this.check = check;
    }

    void run() {
        removeRow();
        setValue();
        setValueIsNotChecked();
        setValueWrong();
        valueAt();
        rowCount();
        rowAt();
    }

    private void removeRow() {
        check.test("promise 10: removeRow");
        QualityGate gate = Gates.withColumn(5, 6, 7);
        check.due(2, gate.removeRow(1));
        check.due("0 2", Gates.ids(gate));
        check.dueThrow(NoSuchElementException.class, () -> gate.removeRow(1));
        check.dueThrow(NoSuchElementException.class, () -> gate.removeRow(3));
        check.dueThrow(NoSuchElementException.class, () -> gate.removeRow(-1));
        check.due(2, gate.rowCount());
        gate.stage(8, 0, 0, 0, 0);
        check.dueThrow(NoSuchElementException.class, () -> gate.removeRow(3));
        check.due(1, gate.removeRow(2));
        check.due(0, gate.removeRow(0));
        gate.commit();
        check.due("3", Gates.ids(gate));
    }

    private void setValue() {
        check.test("promise 11: setValue");
        QualityGate gate = Gates.with(Gates.row(1, 2, 3, 4, 5), Gates.row(6, 7, 8, 9, 10));
        check.due(10, gate.setValue(1, 4, -99));
        check.due(-99, gate.setValue(1, 4, M));
        check.due(M, gate.setValue(1, 4, 99));
        check.due(1, gate.setValue(0, 0, 0));
        check.due("0 2 3 4 5", Gates.values(gate, 0));
        check.due("6 7 8 9 99", Gates.values(gate, 1));
    }

    private void setValueIsNotChecked() {
        check.test("promise 11: setValue does not check the rules");
        QualityGate gate = Gates.withColumn(1, 2);
        gate.addUnique(0, true);
        gate.addRequired(1, true);
        check.due(2, gate.setValue(1, 0, 1));
        check.due(0, gate.setValue(1, 1, M));
        check.due(1, gate.violations(0));
        check.due(1, gate.violations(1));
    }

    private void setValueWrong() {
        check.test("promise 11: setValue with wrong inputs, in their order");
        QualityGate gate = Gates.withColumn(1);
        check.dueThrow(NoSuchElementException.class, () -> gate.setValue(1, 5, 101));
        check.dueThrow(NoSuchElementException.class, () -> gate.setValue(-1, 0, 0));
        check.dueThrow(IndexOutOfBoundsException.class, () -> gate.setValue(0, 5, 101));
        check.dueThrow(IndexOutOfBoundsException.class, () -> gate.setValue(0, -1, 0));
        check.dueThrow(IllegalArgumentException.class, () -> gate.setValue(0, 4, 101));
        check.dueThrow(IllegalArgumentException.class, () -> gate.setValue(0, 0, -100));
        check.due("1 0 0 0 0", Gates.values(gate, 0));
    }

    private void valueAt() {
        check.test("promise 12: valueAt");
        QualityGate gate = Gates.with(Gates.row(1, 2, 3, 4, M), Gates.row(6, 7, 8, 9, 10));
        check.due(1, gate.valueAt(0, 0));
        check.due(M, gate.valueAt(0, 4));
        check.due(8, gate.valueAt(1, 2));
        check.dueThrow(NoSuchElementException.class, () -> gate.valueAt(2, 5));
        check.dueThrow(NoSuchElementException.class, () -> gate.valueAt(-1, 0));
        check.dueThrow(IndexOutOfBoundsException.class, () -> gate.valueAt(1, 5));
        check.dueThrow(IndexOutOfBoundsException.class, () -> gate.valueAt(1, -1));
        check.dueThrow(IndexOutOfBoundsException.class, () -> gate.valueAt(1, Integer.MAX_VALUE));
        gate.removeRow(0);
        check.dueThrow(NoSuchElementException.class, () -> gate.valueAt(0, 0));
        check.due(6, gate.valueAt(1, 0));
    }

    private void rowCount() {
        check.test("promise 13: rowCount");
        QualityGate gate = Gates.withColumn(1, 2, 3);
        check.due(3, gate.rowCount());
        gate.stage(4, 4, 4, 4, 4);
        check.due(3, gate.rowCount());
        gate.removeRow(0);
        check.due(2, gate.rowCount());
        gate.commit();
        check.due(3, gate.rowCount());
    }

    private void rowAt() {
        check.test("promise 14: rowAt");
        QualityGate gate = Gates.withColumn(1, 2, 3);
        gate.removeRow(1);
        check.due(0, gate.rowAt(0));
        check.due(2, gate.rowAt(1));
        check.dueThrow(IndexOutOfBoundsException.class, () -> gate.rowAt(2));
        check.dueThrow(IndexOutOfBoundsException.class, () -> gate.rowAt(-1));
        check.dueThrow(IndexOutOfBoundsException.class, () -> gate.rowAt(Integer.MIN_VALUE));
    }
}
