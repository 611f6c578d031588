import java.util.NoSuchElementException;

/** Promises 39 to 43: medians, spreads and outliers. */
final class OutlierTest {
    private static final int M = Gates.M;
    private final Check check;

    OutlierTest(Check check) {
        this.check = check;
    }

    void run() {
        setFactor();
        medianOf();
        spreadOf();
        isOutlier();
        outliers();
        noPresentValues();
    }

    private void setFactor() {
        check.test("promise 39: setFactor");
        QualityGate gate = new QualityGate();
        check.due(3, gate.setFactor(9));
        check.due(9, gate.setFactor(1));
        check.dueThrow(IllegalArgumentException.class, () -> gate.setFactor(0));
        check.dueThrow(IllegalArgumentException.class, () -> gate.setFactor(10));
        check.dueThrow(IllegalArgumentException.class, () -> gate.setFactor(Integer.MIN_VALUE));
        check.due(1, gate.setFactor(2));
    }

    private void medianOf() {
        check.test("promise 40: medianOf");
        check.due(5, Gates.withColumn(5).medianOf(0));
        check.due(-7, Gates.withColumn(5, -7).medianOf(0));
        check.due(3, Gates.withColumn(9, 3, -50).medianOf(0));
        check.due(2, Gates.withColumn(8, 2, 1, 4, M, M).medianOf(0));
        check.due(6, Gates.withColumn(12, 11, 10, 9, 8, 7, 6, 5, 4, 3, 2, 1).medianOf(0));
        check.due(4, Gates.withColumn(4, 4, 4, 99).medianOf(0));
        check.due(-99, Gates.withColumn(-99, -99, 99).medianOf(0));
        QualityGate gate = Gates.with(Gates.row(1, 2, 3, 4, 5), Gates.row(M, M, M, M, M));
        check.due(5, gate.medianOf(4));
        check.dueThrow(IndexOutOfBoundsException.class, () -> gate.medianOf(5));
        check.dueThrow(IndexOutOfBoundsException.class, () -> gate.medianOf(-1));
        gate.removeRow(0);
        check.dueThrow(NoSuchElementException.class, () -> gate.medianOf(4));
        check.dueThrow(NoSuchElementException.class, () -> new QualityGate().medianOf(0));
        check.dueThrow(IndexOutOfBoundsException.class, () -> new QualityGate().medianOf(5));
    }

    private void spreadOf() {
        check.test("promise 41: spreadOf");
        check.due(0, Gates.withColumn(5).spreadOf(0));
        check.due(0, Gates.withColumn(5, -7).spreadOf(0));
        check.due(1, Gates.withColumn(1, 2, 3, 4, 50).spreadOf(0));
        check.due(4, Gates.withColumn(-10, -4, 0, 3, 9, M).spreadOf(0));
        check.due(3, Gates.withColumn(0, 3, 10, 30).spreadOf(0));
        check.due(99, Gates.withColumn(-99, 0, 99).spreadOf(0));
        QualityGate gate = Gates.with(Gates.row(1, 2, 3, 4, 5), Gates.row(M, M, M, M, M));
        check.due(0, gate.spreadOf(4));
        check.dueThrow(IndexOutOfBoundsException.class, () -> gate.spreadOf(5));
        check.dueThrow(IndexOutOfBoundsException.class, () -> gate.spreadOf(-1));
        gate.removeRow(0);
        check.dueThrow(NoSuchElementException.class, () -> gate.spreadOf(4));
        check.dueThrow(IndexOutOfBoundsException.class, () -> new QualityGate().spreadOf(5));
    }

    private void isOutlier() {
        check.test("promise 42: isOutlier");
        // the median is 10 and the spread 2
        QualityGate gate = Gates.withColumn(8, 10, 12, 16, 17, 4, 3, 10, 9, M);
        check.due(false, gate.isOutlier(3, 0));
        check.due(true, gate.isOutlier(4, 0));
        check.due(false, gate.isOutlier(5, 0));
        check.due(true, gate.isOutlier(6, 0));
        check.due(false, gate.isOutlier(9, 0));
        gate.setFactor(4);
        check.due(false, gate.isOutlier(4, 0));
        gate.setFactor(1);
        check.due(false, gate.isOutlier(2, 0));
        check.due(true, gate.isOutlier(3, 0));
        check.due(true, gate.isOutlier(5, 0));
        check.due(false, gate.isOutlier(0, 1));
        check.dueThrow(NoSuchElementException.class, () -> gate.isOutlier(10, 5));
        check.dueThrow(NoSuchElementException.class, () -> gate.isOutlier(-1, 0));
        check.dueThrow(IndexOutOfBoundsException.class, () -> gate.isOutlier(0, 5));
        check.dueThrow(IndexOutOfBoundsException.class, () -> gate.isOutlier(0, -1));
    }

    private void outliers() {
        check.test("promise 43: outliers");
        QualityGate gate = Gates.withColumn(8, 10, 12, 16, 17, 4, 3, 10, 9, M);
        check.due(2, gate.outliers(0));
        gate.setFactor(4);
        check.due(0, gate.outliers(0));
        gate.setFactor(1);
        check.due(4, gate.outliers(0));
        check.due(0, gate.outliers(1));
        gate.setValue(0, 1, 1);
        check.due(1, gate.outliers(1));
        check.dueThrow(IndexOutOfBoundsException.class, () -> gate.outliers(5));
        check.dueThrow(IndexOutOfBoundsException.class, () -> gate.outliers(-1));
    }

    private void noPresentValues() {
        check.test("promises 42 and 43: a column without present values");
        QualityGate gate = Gates.withColumn(M, M);
        check.due(false, gate.isOutlier(0, 0));
        check.due(0, gate.outliers(0));
        check.due(0, new QualityGate().outliers(4));
    }
}
