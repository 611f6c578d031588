import java.util.NoSuchElementException;

/** Promises 10 to 14 at their bounds: the rows of the table. */
final class RowEdgeTest {
    private static final int M = Gates.M;
    private final Check check;

    RowEdgeTest(Check check) {
        this.check = check;
    }

    void run() {
        removeRow();
        setValue();
        valueAt();
        rowCount();
        rowAt();
    }

    private void removeRow() {
        removeFromEmptyTable();
        removeFirstToLast();
        removeUntilEmpty();
        removeTwice();
        removeStagedRow();
        idIsNotUsedAgain();
        idOfAnEmptiedTableIsNotUsedAgain();
        removeLeavesOthers();
    }

    private void setValue() {
        setEachColumn();
        setEachValue();
        setEachRow();
        setInEmptyTable();
        setInRemovedRow();
        setInStagedRow();
        noRowBeforeNoColumn();
        noRowBeforeWrongValue();
        noColumnBeforeWrongValue();
        previousValues();
        refusedSetLeavesTheValue();
        setLeavesTheStagedRows();
    }

    private void valueAt() {
        valueOfEachColumn();
        valueOfEachRow();
        valueInEmptyTable();
        valueOfRemovedAndStagedRow();
        valueOfNoRowBeforeNoColumn();
    }

    private void rowCount() {
        countFromNoneToTwelve();
        countAfterRefusedCommit();
    }

    private void rowAt() {
        noPositionInEmptyTable();
        firstToLastPosition();
        positionsAfterRemoval();
        positionsAreNotStaged();
    }

    // ---- promise 10

    private void removeFromEmptyTable() {
        check.test("promise 10: no row is removed from an empty table");
        QualityGate gate = new QualityGate();
        check.dueThrow(NoSuchElementException.class, () -> gate.removeRow(0));
        check.dueThrow(NoSuchElementException.class, () -> gate.removeRow(-1));
        check.due(0, gate.rowCount());
    }

    private void removeFirstToLast() {
        check.test("promise 10: the first to the last row of a full table, and the ids beside them");
        check.dueFromTo(0, 11, NoSuchElementException.class, id -> Gates.full().removeRow(id));
        for (int id = 0; id < 12; id++) {
            check.due(11, Gates.full().removeRow(id));
        }
    }

    private void removeUntilEmpty() {
        check.test("promise 10: the last row leaves an empty table");
        QualityGate gate = Gates.withColumn(1, 2);
        check.due(1, gate.removeRow(0));
        check.due(0, gate.removeRow(1));
        check.due("", Gates.ids(gate));
        check.dueThrow(NoSuchElementException.class, () -> gate.removeRow(1));
    }

    private void removeTwice() {
        check.test("promise 10: a row is removed once");
        QualityGate gate = Gates.withColumn(1, 2, 3);
        gate.removeRow(1);
        check.dueThrow(NoSuchElementException.class, () -> gate.removeRow(1));
        check.due(2, gate.rowCount());
    }

    private void removeStagedRow() {
        check.test("promise 10: a staged row is no row of the table");
        QualityGate gate = new QualityGate();
        gate.stage(1, 0, 0, 0, 0);
        check.dueThrow(NoSuchElementException.class, () -> gate.removeRow(0));
        check.dueThrow(NoSuchElementException.class, () -> gate.removeRow(-1));
        check.due(1, gate.staged());
    }

    private void idIsNotUsedAgain() {
        check.test("promise 10: the id of the removed last row is not used again");
        QualityGate gate = Gates.withColumn(1, 2, 3);
        gate.removeRow(2);
        Gates.add(gate, Gates.row(4, 0, 0, 0, 0));
        check.due("0 1 3", Gates.ids(gate));
        check.dueThrow(NoSuchElementException.class, () -> gate.valueAt(2, 0));
    }

    private void idOfAnEmptiedTableIsNotUsedAgain() {
        check.test("promise 10: no id of a table that was emptied is used again");
        QualityGate gate = Gates.full();
        for (int id = 0; id < 12; id++) {
            gate.removeRow(id);
        }
        Gates.add(gate, Gates.row(4, 0, 0, 0, 0));
        check.due("12", Gates.ids(gate));
    }

    private void removeLeavesOthers() {
        check.test("promise 10: the other rows keep their ids, their order and their values");
        QualityGate gate = Gates.full();
        gate.removeRow(5);
        gate.removeRow(0);
        gate.removeRow(11);
        check.due("1 2 3 4 6 7 8 9 10", Gates.ids(gate));
        for (int id : new int[] {1, 4, 6, 10}) {
            check.due(id + " 0 0 0 0", Gates.values(gate, id));
        }
    }

    // ---- promise 11

    private void setEachColumn() {
        check.test("promise 11: the first to the last column, and those beside them");
        QualityGate gate = Gates.withColumn(1);
        check.dueFromTo(0, 4, IndexOutOfBoundsException.class, column -> gate.setValue(0, column, column + 10));
        check.due("10 11 12 13 14", Gates.values(gate, 0));
    }

    private void setEachValue() {
        check.test("promise 11: the lowest value to MISSING, and those beside them");
        for (int column = 0; column < 5; column++) {
            int at = column;
            QualityGate gate = Gates.withColumn(1);
            check.dueFromTo(-99, M, IllegalArgumentException.class, value -> gate.setValue(0, at, value));
            check.due(M, gate.setValue(0, at, -99));
            check.due(-99, gate.setValue(0, at, 99));
            check.due(99, gate.valueAt(0, at));
        }
    }

    private void setEachRow() {
        check.test("promise 11: the first to the last row of a full table, and the ids beside them");
        QualityGate gate = Gates.full();
        check.dueFromTo(0, 11, NoSuchElementException.class, id -> gate.setValue(id, 4, id + 20));
        check.due("0 0 0 0 20", Gates.values(gate, 0));
        check.due("11 0 0 0 31", Gates.values(gate, 11));
    }

    private void setInEmptyTable() {
        check.test("promise 11: there is no row in an empty table");
        check.dueThrow(NoSuchElementException.class, () -> new QualityGate().setValue(0, 0, 0));
    }

    private void setInRemovedRow() {
        check.test("promise 11: a removed row is not there");
        QualityGate gate = Gates.withColumn(1, 2, 3);
        gate.removeRow(1);
        check.dueThrow(NoSuchElementException.class, () -> gate.setValue(1, 0, 9));
        check.due("1 0 0 0 0", Gates.values(gate, 0));
        check.due("3 0 0 0 0", Gates.values(gate, 2));
    }

    private void setInStagedRow() {
        check.test("promise 11: a staged row is not there");
        QualityGate gate = Gates.withColumn(1);
        gate.stage(2, 0, 0, 0, 0);
        check.dueThrow(NoSuchElementException.class, () -> gate.setValue(1, 0, 9));
        check.dueThrow(NoSuchElementException.class, () -> gate.setValue(-1, 0, 9));
        gate.commit();
        check.due(2, gate.valueAt(1, 0));
    }

    private void noRowBeforeNoColumn() {
        check.test("promise 11: no such row comes before no such column");
        QualityGate gate = Gates.withColumn(1);
        check.dueThrow(NoSuchElementException.class, () -> gate.setValue(1, 5, 0));
        check.dueThrow(NoSuchElementException.class, () -> gate.setValue(-1, -1, 0));
    }

    private void noRowBeforeWrongValue() {
        check.test("promise 11: no such row comes before a value out of range");
        QualityGate gate = Gates.withColumn(1);
        check.dueThrow(NoSuchElementException.class, () -> gate.setValue(1, 0, 101));
        check.dueThrow(NoSuchElementException.class, () -> gate.setValue(1, 5, -100));
    }

    private void noColumnBeforeWrongValue() {
        check.test("promise 11: no such column comes before a value out of range");
        QualityGate gate = Gates.withColumn(1);
        check.dueThrow(IndexOutOfBoundsException.class, () -> gate.setValue(0, 5, 101));
        check.dueThrow(IndexOutOfBoundsException.class, () -> gate.setValue(0, -1, -100));
    }

    private void previousValues() {
        check.test("promise 11: the previous value, if it was MISSING or the same");
        QualityGate gate = Gates.withColumn(M);
        check.due(M, gate.setValue(0, 0, M));
        check.due(M, gate.setValue(0, 0, 0));
        check.due(0, gate.setValue(0, 0, 0));
    }

    private void refusedSetLeavesTheValue() {
        check.test("promise 11: a refused call leaves the values");
        QualityGate gate = Gates.withColumn(1, 2);
        check.dueThrow(IllegalArgumentException.class, () -> gate.setValue(0, 0, 101));
        check.dueThrow(IndexOutOfBoundsException.class, () -> gate.setValue(0, 5, 9));
        check.dueThrow(NoSuchElementException.class, () -> gate.setValue(2, 0, 9));
        check.due("1 0 0 0 0", Gates.values(gate, 0));
        check.due("2 0 0 0 0", Gates.values(gate, 1));
    }

    private void setLeavesTheStagedRows() {
        check.test("promise 11: the staged rows are not changed");
        QualityGate gate = Gates.withColumn(1);
        gate.stage(1, 0, 0, 0, 0);
        gate.setValue(0, 0, 9);
        gate.commit();
        check.due(9, gate.valueAt(0, 0));
        check.due(1, gate.valueAt(1, 0));
    }

    // ---- promise 12

    private void valueOfEachColumn() {
        check.test("promise 12: the first to the last column, and those beside them");
        QualityGate gate = Gates.with(Gates.row(-99, 99, M, 0, 1));
        check.dueFromTo(0, 4, IndexOutOfBoundsException.class, column -> gate.valueAt(0, column));
        check.due("-99 99 100 0 1", Gates.values(gate, 0));
    }

    private void valueOfEachRow() {
        check.test("promise 12: the first to the last row of a full table, and the ids beside them");
        QualityGate gate = Gates.full();
        check.dueFromTo(0, 11, NoSuchElementException.class, id -> gate.valueAt(id, 0));
        check.due(0, gate.valueAt(0, 0));
        check.due(11, gate.valueAt(11, 0));
    }

    private void valueInEmptyTable() {
        check.test("promise 12: there is no row in an empty table");
        check.dueThrow(NoSuchElementException.class, () -> new QualityGate().valueAt(0, 0));
    }

    private void valueOfRemovedAndStagedRow() {
        check.test("promise 12: a removed row and a staged row are not there");
        QualityGate gate = Gates.withColumn(1, 2);
        gate.removeRow(1);
        gate.stage(3, 0, 0, 0, 0);
        check.dueThrow(NoSuchElementException.class, () -> gate.valueAt(1, 0));
        check.dueThrow(NoSuchElementException.class, () -> gate.valueAt(2, 0));
        gate.commit();
        check.due(3, gate.valueAt(2, 0));
    }

    private void valueOfNoRowBeforeNoColumn() {
        check.test("promise 12: no such row comes before no such column");
        QualityGate gate = Gates.withColumn(1);
        check.dueThrow(NoSuchElementException.class, () -> gate.valueAt(1, 5));
        check.dueThrow(NoSuchElementException.class, () -> new QualityGate().valueAt(0, -1));
    }

    // ---- promises 13 and 14

    private void countFromNoneToTwelve() {
        check.test("promise 13: from an empty table to a full one and back");
        QualityGate gate = new QualityGate();
        for (int rows = 0; rows < 12; rows++) {
            check.due(rows, gate.rowCount());
            Gates.add(gate, Gates.row(rows, 0, 0, 0, 0));
        }
        check.due(12, gate.rowCount());
        for (int id = 0; id < 12; id++) {
            gate.removeRow(id);
            check.due(11 - id, gate.rowCount());
        }
    }

    private void countAfterRefusedCommit() {
        check.test("promise 13: staged rows do not count, after a refused commit either");
        QualityGate gate = Gates.full();
        Gates.fillBatch(gate);
        check.dueThrow(IllegalStateException.class, gate::commit);
        check.due(12, gate.rowCount());
    }

    private void noPositionInEmptyTable() {
        check.test("promise 14: an empty table has no position");
        QualityGate gate = new QualityGate();
        for (int position : new int[] {0, -1, 1, 12, Integer.MIN_VALUE, Integer.MAX_VALUE}) {
            check.dueThrow(IndexOutOfBoundsException.class, () -> gate.rowAt(position));
        }
    }

    private void firstToLastPosition() {
        check.test("promise 14: the first to the last position, and those beside them");
        QualityGate full = Gates.full();
        check.dueFromTo(0, 11, IndexOutOfBoundsException.class, full::rowAt);
        check.due("0 1 2 3 4 5 6 7 8 9 10 11", Gates.ids(full));
        check.dueFromTo(0, 0, IndexOutOfBoundsException.class, Gates.withColumn(1)::rowAt);
    }

    private void positionsAfterRemoval() {
        check.test("promise 14: positions after a removal");
        QualityGate gate = Gates.full();
        gate.removeRow(0);
        gate.removeRow(6);
        check.due(1, gate.rowAt(0));
        check.due(5, gate.rowAt(4));
        check.due(7, gate.rowAt(5));
        check.due(11, gate.rowAt(9));
        check.dueThrow(IndexOutOfBoundsException.class, () -> gate.rowAt(10));
    }

    private void positionsAreNotStaged() {
        check.test("promise 14: a staged row has no position");
        QualityGate gate = Gates.withColumn(1);
        gate.stage(2, 0, 0, 0, 0);
        check.dueThrow(IndexOutOfBoundsException.class, () -> gate.rowAt(1));
    }
}
