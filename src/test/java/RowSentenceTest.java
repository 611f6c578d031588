import java.util.NoSuchElementException;

/** The sentences of the promises 10 to 14. */
final class RowSentenceTest {
    private static final int M = Gates.M;

    private final Check check;
    private final Sentences document;

    RowSentenceTest(Check check, Sentences document) {
        this.check = check;
        this.document = document;
    }

    void run() {
        removeRow();
        setValue();
        valueAt();
        rowCount();
        rowAt();
    }

    private interface GateCall {
        Object on(QualityGate gate, int id);
    }

    /** A gate with the rows 2, 3, 5 and 6 of seven that were added, and a staged row. */
    private static QualityGate someRows() {
        QualityGate gate = new QualityGate();
        for (int id = 0; id < 7; id++) {
            Gates.add(gate, Gates.row(id, 10 + id, M, 30 + id, 40 + id));
        }
        gate.removeRow(4);
        gate.removeRow(0);
        gate.removeRow(1);
        gate.stage(7, 17, M, 37, 47);
        return gate;
    }

    /** Rows that are there, that were removed, that are staged, and that never were. */
    private void rowIsThere(GateCall call) {
        for (int id : new int[] {2, 3, 5, 6}) {
            check.due(false, Check.ownOutcome(() -> call.on(someRows(), id)).toString().contains("throws"));
        }
    }

    private void noSuchRow(GateCall call) {
        document.says("Throws `NoSuchElementException` if there is no such row");
        for (int id : new int[] {-1, 0, 1, 4, 7, 8, 12, Integer.MIN_VALUE, Integer.MAX_VALUE}) {
            check.dueThrow(NoSuchElementException.class, () -> call.on(someRows(), id));
            check.dueThrow(NoSuchElementException.class, () -> call.on(new QualityGate(), id));
        }
    }

    private interface ColumnCall {
        Object at(int column);
    }

    private void noSuchColumn(ColumnCall call) {
        document.says("Throws `IndexOutOfBoundsException` if there is no such column");
        check.dueFromTo(0, 4, IndexOutOfBoundsException.class, call::at);
        check.dueThrow(IndexOutOfBoundsException.class, () -> call.at(31));
        check.dueThrow(IndexOutOfBoundsException.class, () -> call.at(-5));
    }

    private void removeRow() {
        document.section("promise 10");
        document.says("Removes a row from the table.");
        QualityGate gate = someRows();
        gate.removeRow(3);
        check.due("2 5 6", Gates.ids(gate));
        check.due("5 15 100 35 45", Gates.values(gate, 5));
        check.dueThrow(NoSuchElementException.class, () -> gate.valueAt(3, 0));
        check.due(1, gate.staged());

        document.says("- `id`: the id of the row");
        rowIsThere(QualityGate::removeRow);
        gate.removeRow(6);
        gate.removeRow(2);
        check.due("5", Gates.ids(gate));

        document.says("Returns the number of rows after the call.");
        QualityGate full = Gates.full();
        for (int id = 11; id >= 0; id--) {
            check.due(id, full.removeRow(id));
            check.due(id, full.rowCount());
        }
        noSuchRow(QualityGate::removeRow);
    }

    private void setValue() {
        document.section("promise 11");
        document.says("Changes a value of the table; the rules are not checked.");
        QualityGate gate = someRows();
        gate.addUnique(0, true);
        gate.addRequired(1, true);
        gate.addRange(4, 40, 50, true);
        gate.setValue(3, 0, 2);
        gate.setValue(3, 1, M);
        gate.setValue(3, 4, -99);
        check.due("2 100 100 33 -99", Gates.values(gate, 3));
        check.due("2 12 100 32 42", Gates.values(gate, 2));
        check.due("1 1 1", gate.violations(0) + " " + gate.violations(1) + " " + gate.violations(2));
        check.dueThrow(NoSuchElementException.class, gate::rejectedRow);
        check.due("2 3 5 6", Gates.ids(gate));

        document.says("- `id`: the id of the row");
        rowIsThere((each, id) -> each.setValue(id, 0, 0));
        gate.setValue(6, 3, 1);
        check.due("6 16 100 1 46", Gates.values(gate, 6));

        document.says("- `column`: the column");
        for (int column = 0; column < 5; column++) {
            gate.setValue(5, column, 60 + column);
        }
        check.due("60 61 62 63 64", Gates.values(gate, 5));
        check.due("6 16 100 1 46", Gates.values(gate, 6));
        newValue(someRows());
        previousValue(gate);
        noSuchRow((each, id) -> each.setValue(id, 5, 101));
        noSuchColumn(column -> gate.setValue(5, column, 0));
        check.dueThrow(IndexOutOfBoundsException.class, () -> gate.setValue(5, 5, 101));
        valueOutOfRange(gate);
    }

    private void newValue(QualityGate gate) {
        document.says("- `value`: the new value, -99 to 99 or MISSING");
        check.dueFromTo(-99, M, IllegalArgumentException.class, value -> someRows().setValue(2, 2, value));
        for (int value = -99; value <= M; value++) {
            gate.setValue(2, 2, value);
            check.due(value, gate.valueAt(2, 2));
        }
    }

    private void previousValue(QualityGate gate) {
        document.says("Returns the previous value.");
        check.due(M, gate.setValue(2, 2, -99));
        check.due(-99, gate.setValue(2, 2, 99));
        check.due(99, gate.setValue(2, 2, 99));
        check.due(99, gate.setValue(2, 2, 0));
        check.due(0, gate.setValue(2, 2, M));
        check.due(42, gate.setValue(2, 4, 1));
    }

    private void valueOutOfRange(QualityGate gate) {
        document.says("Throws `IllegalArgumentException` if the value is out of range");
        for (int column = 0; column < 5; column++) {
            int at = column;
            int before = gate.valueAt(5, column);
            for (int wrong : new int[] {-100, 101, 200, -128, Integer.MIN_VALUE, Integer.MAX_VALUE}) {
                check.dueThrow(IllegalArgumentException.class, () -> gate.setValue(5, at, wrong));
            }
            check.due(before, gate.valueAt(5, column));
        }
    }

    private void valueAt() {
        document.section("promise 12");
        document.says("Returns a value of the table.");
        QualityGate gate = someRows();
        check.due(13, gate.valueAt(3, 1));
        check.due(M, gate.valueAt(3, 2));
        gate.setValue(3, 1, -40);
        check.due(-40, gate.valueAt(3, 1));

        document.says("- `id`: the id of the row");
        rowIsThere((each, id) -> each.valueAt(id, 4));
        for (int id : new int[] {2, 3, 5, 6}) {
            check.due(30 + id, gate.valueAt(id, 3));
        }

        document.says("- `column`: the column");
        int[] want = {6, 16, M, 36, 46};
        for (int column = 0; column < 5; column++) {
            check.due(want[column], gate.valueAt(6, column));
        }

        document.says("Returns the value.");
        for (int value : new int[] {-99, -1, 0, 1, 99, M}) {
            gate.setValue(5, 0, value);
            check.due(value, gate.valueAt(5, 0));
            check.due(value, gate.valueAt(5, 0));
        }
        noSuchRow((each, id) -> each.valueAt(id, 5));
        noSuchColumn(column -> gate.valueAt(2, column));
    }

    private void rowCount() {
        document.section("promise 13");
        document.says("Returns the number of rows of the table.");
        check.due(0, new QualityGate().rowCount());
        check.due(4, someRows().rowCount());
        check.due(12, Gates.full().rowCount());

        document.says("Returns the number of rows.");
        QualityGate gate = new QualityGate();
        for (int rows = 0; rows < 12; rows++) {
            check.due(rows, gate.rowCount());
            gate.stage(rows, 0, 0, 0, 0);
            check.due(rows, gate.rowCount());
            gate.commit();
        }
        check.due(12, gate.rowCount());
        gate.addRange(0, 0, 4, false);
        gate.repair();
        check.due(5, gate.rowCount());
        gate.removeRow(0);
        check.due(4, gate.rowCount());
    }

    private void rowAt() {
        document.section("promise 14");
        document.says("Returns the id of a row by its position; the rows of the table are ordered by their ids.");
        QualityGate gate = someRows();
        check.due("2 3 5 6", Gates.ids(gate));
        gate.setValue(2, 0, 99);
        gate.commit();
        check.due("2 3 5 6 7", Gates.ids(gate));
        gate.removeRow(3);
        check.due("2 5 6 7", Gates.ids(gate));

        document.says("- `position`: the position, from 0");
        check.dueFromTo(0, 3, IndexOutOfBoundsException.class, gate::rowAt);
        check.dueFromTo(0, 11, IndexOutOfBoundsException.class, Gates.full()::rowAt);

        document.says("Returns the id of the row.");
        QualityGate full = Gates.full();
        for (int position = 0; position < 12; position++) {
            check.due(position, full.rowAt(position));
        }
        full.removeRow(0);
        Gates.add(full, Gates.row(0, 0, 0, 0, 0));
        for (int position = 0; position < 12; position++) {
            check.due(position + 1, full.rowAt(position));
        }

        document.says("Throws `IndexOutOfBoundsException` if there is no such position");
        for (int position : new int[] {-1, 4, 5, 12, Integer.MIN_VALUE, Integer.MAX_VALUE}) {
            check.dueThrow(IndexOutOfBoundsException.class, () -> gate.rowAt(position));
            check.dueThrow(IndexOutOfBoundsException.class, () -> new QualityGate().rowAt(position));
        }
        check.dueThrow(IndexOutOfBoundsException.class, () -> new QualityGate().rowAt(0));
    }
}
