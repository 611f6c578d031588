import java.util.NoSuchElementException;

/** Promises 30 to 38: functional dependencies, minimal sets, closures, keys and errors. */
final class DependencyTest {
    private static final int M = Gates.M;
    private final Check check;

    DependencyTest(Check check) {
        this.check = check;
    }

    void run() {
        determines();
        emptySet();
        determinesWrong();
        minimalCount();
        minimalAt();
        minimalWrong();
        closureOf();
        isKey();
        smallestKey();
        errorOf();
        errorOfWrong();
    }

    private void dueDetermines(boolean want, QualityGate gate, int set, int column) {
        check.due(want, gate.determines(set, column));
        check.due(want, gate.determinesByPairs(set, column));
    }

    private void dueMinimal(QualityGate gate, int column, int... sets) {
        check.due(sets.length, gate.minimalCount(column));
        check.due(sets.length, gate.minimalCountByTrying(column));
        for (int i = 0; i < sets.length; i++) {
            check.due(sets[i], gate.minimalAt(column, i));
        }
        check.dueThrow(IndexOutOfBoundsException.class, () -> gate.minimalAt(column, sets.length));
    }

    /** Column 0 determines column 1, columns 1 and 2 together determine column 3, and column 4 is the same in all. */
    private static QualityGate orders() {
        return Gates.with(Gates.row(1, 10, 5, 50, 7), Gates.row(1, 10, 6, 60, 7), Gates.row(2, 10, 5, 50, 7),
                Gates.row(3, 20, 5, 60, 7), Gates.row(3, 20, 5, 60, 7));
    }

    private void determines() {
        check.test("promises 30 and 31: determines");
        QualityGate gate = orders();
        dueDetermines(true, gate, 1, 1);
        dueDetermines(false, gate, 2, 0);
        dueDetermines(true, gate, 6, 3);
        dueDetermines(false, gate, 2, 3);
        dueDetermines(false, gate, 4, 3);
        dueDetermines(true, gate, 15, 4);
        dueDetermines(false, gate, 1, 0);
        dueDetermines(false, gate, 31, 4);
        gate.setValue(0, 1, M);
        dueDetermines(false, gate, 1, 1);
        gate.setValue(1, 1, M);
        dueDetermines(true, gate, 1, 1);
        gate.setValue(4, 0, M);
        gate.setValue(3, 0, M);
        dueDetermines(true, gate, 1, 1);
        gate.setValue(3, 1, 21);
        dueDetermines(false, gate, 1, 1);
    }

    private void emptySet() {
        check.test("promises 30 and 31: the empty set and tables with few rows");
        QualityGate gate = orders();
        dueDetermines(true, gate, 0, 4);
        dueDetermines(false, gate, 0, 1);
        QualityGate empty = new QualityGate();
        dueDetermines(true, empty, 0, 0);
        dueDetermines(false, empty, 1, 0);
        QualityGate one = Gates.withColumn(1);
        dueDetermines(true, one, 0, 0);
        dueDetermines(false, one, 31, 0);
    }

    private void determinesWrong() {
        check.test("promises 30 and 31: determines with wrong inputs, in their order");
        QualityGate gate = orders();
        for (int set : new int[] {-1, 32, Integer.MIN_VALUE}) {
            check.dueThrow(IllegalArgumentException.class, () -> gate.determines(set, 5));
            check.dueThrow(IllegalArgumentException.class, () -> gate.determinesByPairs(set, 5));
        }
        for (int column : new int[] {-1, 5, Integer.MAX_VALUE}) {
            check.dueThrow(IndexOutOfBoundsException.class, () -> gate.determines(31, column));
            check.dueThrow(IndexOutOfBoundsException.class, () -> gate.determinesByPairs(31, column));
        }
    }

    private void minimalCount() {
        check.test("promises 32 and 33: minimalCount");
        QualityGate gate = orders();
        dueMinimal(gate, 1, 1, 12);
        dueMinimal(gate, 3, 5, 6);
        dueMinimal(gate, 4, 0);
        dueMinimal(gate, 0);
        dueMinimal(gate, 2, 9, 10);
        dueMinimal(new QualityGate(), 2, 0);
    }

    private void minimalAt() {
        check.test("promise 34: minimalAt, by columns and then by numbers");
        // column 4 is determined by column 3, and by the columns 0 and 1, but not by one of these alone
        QualityGate gate = Gates.with(Gates.row(0, 0, 0, 1, 1), Gates.row(0, 1, 0, 2, 2), Gates.row(1, 0, 0, 2, 2),
                Gates.row(1, 1, 0, 1, 1));
        dueMinimal(gate, 4, 8, 3);
        dueMinimal(gate, 3, 16, 3);
        dueMinimal(gate, 0, 10, 18);
        dueMinimal(gate, 2, 0);
    }

    private void minimalWrong() {
        check.test("promises 32 to 34: wrong inputs");
        QualityGate gate = orders();
        for (int column : new int[] {-1, 5, Integer.MIN_VALUE}) {
            check.dueThrow(IndexOutOfBoundsException.class, () -> gate.minimalCount(column));
            check.dueThrow(IndexOutOfBoundsException.class, () -> gate.minimalCountByTrying(column));
            check.dueThrow(IndexOutOfBoundsException.class, () -> gate.minimalAt(column, 0));
        }
        check.dueThrow(IndexOutOfBoundsException.class, () -> gate.minimalAt(1, -1));
        check.dueThrow(IndexOutOfBoundsException.class, () -> gate.minimalAt(1, 2));
        check.dueThrow(IndexOutOfBoundsException.class, () -> gate.minimalAt(0, 0));
        check.due(12, gate.minimalAt(1, 1));
    }

    private void closureOf() {
        check.test("promise 35: closureOf");
        QualityGate gate = orders();
        check.due(16, gate.closureOf(0));
        check.due(19, gate.closureOf(1));
        check.due(18, gate.closureOf(2));
        check.due(31, gate.closureOf(5));
        check.due(30, gate.closureOf(6));
        check.due(31, gate.closureOf(31));
        check.due(31, new QualityGate().closureOf(0));
        check.dueThrow(IllegalArgumentException.class, () -> gate.closureOf(32));
        check.dueThrow(IllegalArgumentException.class, () -> gate.closureOf(-1));
    }

    private void isKey() {
        check.test("promise 36: isKey");
        QualityGate gate = orders();
        check.due(false, gate.isKey(31));
        gate.removeRow(4);
        check.due(true, gate.isKey(31));
        check.due(true, gate.isKey(5));
        check.due(false, gate.isKey(14));
        check.due(false, gate.isKey(0));
        gate.setValue(1, 0, M);
        check.due(true, gate.isKey(1));
        gate.setValue(0, 0, M);
        check.due(false, gate.isKey(1));
        check.due(true, Gates.withColumn(1).isKey(0));
        check.due(true, new QualityGate().isKey(0));
        check.dueThrow(IllegalArgumentException.class, () -> gate.isKey(32));
        check.dueThrow(IllegalArgumentException.class, () -> gate.isKey(-1));
    }

    private void smallestKey() {
        check.test("promise 37: smallestKey");
        QualityGate gate = orders();
        check.dueThrow(NoSuchElementException.class, gate::smallestKey);
        gate.removeRow(4);
        check.due(5, gate.smallestKey());
        gate.setValue(0, 4, 1);
        gate.setValue(1, 4, 2);
        gate.setValue(2, 4, 3);
        check.due(16, gate.smallestKey());
        check.due(0, new QualityGate().smallestKey());
        check.due(0, Gates.withColumn(1).smallestKey());
        check.due(1, Gates.with(Gates.row(1, 1, 0, 0, 0), Gates.row(2, 2, 0, 0, 0)).smallestKey());
        // the columns 1 and 2 tell the rows apart, as the columns 0, 3 and 4 do: fewer columns come first
        QualityGate many = Gates.with(Gates.row(0, 0, 0, 0, 0), Gates.row(0, 0, 1, 1, 0), Gates.row(0, 1, 0, 0, 1),
                Gates.row(1, 1, 1, 0, 1));
        check.due(6, many.smallestKey());
        QualityGate whole = Gates.with(Gates.row(0, 0, 0, 0, 0), Gates.row(1, 0, 0, 0, 0), Gates.row(0, 1, 0, 0, 0),
                Gates.row(0, 0, 1, 0, 0), Gates.row(0, 0, 0, 1, 0), Gates.row(0, 0, 0, 0, 1));
        check.due(31, whole.smallestKey());
        check.dueThrow(IndexOutOfBoundsException.class, () -> whole.minimalAt(0, 0));
    }

    private void errorOf() {
        check.test("promise 38: errorOf");
        QualityGate gate = orders();
        check.due(0, gate.errorOf(1, 1));
        check.due(0, gate.errorOf(0, 4));
        check.due(1, gate.errorOf(2, 3));
        check.due(2, gate.errorOf(0, 1));
        check.due(3, gate.errorOf(0, 0));
        QualityGate classes = Gates.with(Gates.row(1, 1, 0, 0, 0), Gates.row(1, 2, 0, 0, 0), Gates.row(1, 2, 0, 0, 0),
                Gates.row(2, M, 0, 0, 0), Gates.row(2, M, 0, 0, 0), Gates.row(2, 4, 0, 0, 0), Gates.row(2, 5, 0, 0, 0));
        check.due(3, classes.errorOf(1, 1));
        check.due(5, classes.errorOf(4, 1));
        check.due(3, classes.errorOf(0, 0));
        check.due(0, new QualityGate().errorOf(0, 0));
    }

    private void errorOfWrong() {
        check.test("promise 38: errorOf with wrong inputs, in their order");
        QualityGate gate = orders();
        check.dueThrow(IndexOutOfBoundsException.class, () -> gate.errorOf(32, 5));
        check.dueThrow(IndexOutOfBoundsException.class, () -> gate.errorOf(0, -1));
        check.dueThrow(IllegalArgumentException.class, () -> gate.errorOf(32, 0));
        check.dueThrow(IllegalArgumentException.class, () -> gate.errorOf(-1, 0));
        check.dueThrow(IllegalArgumentException.class, () -> gate.errorOf(1, 0));
        check.dueThrow(IllegalArgumentException.class, () -> gate.errorOf(16, 4));
    }
}
