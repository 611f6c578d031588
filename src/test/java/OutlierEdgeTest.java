import java.util.NoSuchElementException;

/** Promises 39 to 43 at their bounds: the factor, medians, spreads and outliers. */
final class OutlierEdgeTest {
    private static final int M = Gates.M;
    private final Check check;

    OutlierEdgeTest(Check check) {
        this.check = check;
    }

    void run() {
        setFactor();
        medianOf();
        spreadOf();
        isOutlier();
        outliers();
    }

    private void setFactor() {
        factorsFromOneToNine();
        refusedFactorLeavesTheFactor();
    }

    private void medianOf() {
        medianColumns();
        medianOfNoPresentValues();
        medianNoColumnBeforeNoValues();
        medianOfOneAndTwo();
        medianOfFullTable();
        medianOfExtremes();
        medianWithoutMissing();
        medianWithoutStagedRows();
    }

    private void spreadOf() {
        spreadColumns();
        spreadOfNoPresentValues();
        spreadNoColumnBeforeNoValues();
        spreadOfOneAndTwo();
        spreadOfFullTable();
        spreadOfExtremes();
        spreadWithoutMissing();
    }

    private void isOutlier() {
        outlierRowsAndColumns();
        outlierInEmptyTable();
        outlierNoRowBeforeNoColumn();
        outlierOfRemovedAndStagedRow();
        outlierIfMissing();
        outlierInColumnWithoutPresentValues();
        outlierAtSpreadTimesFactor();
        outlierAtSpreadZero();
        outlierOfOneValue();
    }

    private void outliers() {
        outliersColumns();
        outliersOfEmptyTableAndNoPresentValues();
        outliersAtEachFactor();
        outliersMost();
        outliersWithoutMissingAndStagedRows();
    }

    // ---- promise 39

    private void factorsFromOneToNine() {
        check.test("promise 39: factors from 1 to 9, and those beside them");
        check.dueFromTo(1, 9, IllegalArgumentException.class, new QualityGate()::setFactor);
        QualityGate gate = new QualityGate();
        check.due(3, gate.setFactor(1));
        check.due(1, gate.setFactor(9));
        check.due(9, gate.setFactor(9));
        check.due(9, gate.setFactor(3));
    }

    private void refusedFactorLeavesTheFactor() {
        check.test("promise 39: a refused factor leaves the factor");
        QualityGate gate = new QualityGate();
        check.dueThrow(IllegalArgumentException.class, () -> gate.setFactor(0));
        check.due(3, gate.setFactor(7));
        check.dueThrow(IllegalArgumentException.class, () -> gate.setFactor(10));
        check.due(7, gate.setFactor(7));
    }

    // ---- promise 40

    private void medianColumns() {
        check.test("promise 40: the first to the last column, and those beside them");
        QualityGate gate = Gates.with(Gates.row(1, 2, 3, 4, 5));
        check.dueFromTo(0, 4, IndexOutOfBoundsException.class, gate::medianOf);
        check.due(1, gate.medianOf(0));
        check.due(5, gate.medianOf(4));
    }

    private void medianOfNoPresentValues() {
        check.test("promise 40: no present values, in an empty table and beside MISSING");
        check.dueThrow(NoSuchElementException.class, () -> new QualityGate().medianOf(0));
        QualityGate gate = Gates.with(Gates.row(M, 0, 0, 0, M), Gates.row(M, 0, 0, 0, M));
        check.dueThrow(NoSuchElementException.class, () -> gate.medianOf(0));
        check.dueThrow(NoSuchElementException.class, () -> gate.medianOf(4));
        gate.setValue(1, 4, -99);
        check.due(-99, gate.medianOf(4));
    }

    private void medianNoColumnBeforeNoValues() {
        check.test("promise 40: no such column comes before no present values");
        check.dueThrow(IndexOutOfBoundsException.class, () -> new QualityGate().medianOf(5));
        check.dueThrow(IndexOutOfBoundsException.class, () -> new QualityGate().medianOf(-1));
    }

    private void medianOfOneAndTwo() {
        check.test("promise 40: of one number it is that one, of two the smaller one");
        check.due(42, Gates.withColumn(42).medianOf(0));
        check.due(-2, Gates.withColumn(-2, 3).medianOf(0));
        check.due(-2, Gates.withColumn(3, -2).medianOf(0));
        check.due(3, Gates.withColumn(-9, 3, 4).medianOf(0));
    }

    private void medianOfFullTable() {
        check.test("promise 40: of twelve numbers the sixth, of eleven the sixth");
        QualityGate gate = Gates.withColumn(11, 0, 10, 1, 9, 2, 8, 3, 7, 4, 6, 5);
        check.due(5, gate.medianOf(0));
        gate.removeRow(1);
        check.due(6, gate.medianOf(0));
    }

    private void medianOfExtremes() {
        check.test("promise 40: the lowest and the highest values");
        check.due(-99, Gates.withColumn(99, -99).medianOf(0));
        check.due(99, Gates.withColumn(99, -99, 99).medianOf(0));
    }

    private void medianWithoutMissing() {
        check.test("promise 40: MISSING is no value of the median");
        check.due(1, Gates.withColumn(M, 1, M, M, 2, M).medianOf(0));
    }

    private void medianWithoutStagedRows() {
        check.test("promise 40: staged rows do not count");
        QualityGate gate = Gates.withColumn(5);
        Gates.stageColumn(gate, 1, 1, 1);
        check.due(5, gate.medianOf(0));
        gate.commit();
        check.due(1, gate.medianOf(0));
    }

    // ---- promise 41

    private void spreadColumns() {
        check.test("promise 41: the first to the last column, and those beside them");
        QualityGate gate = Gates.with(Gates.row(1, 2, 3, 4, 5), Gates.row(1, 2, 3, 4, 9), Gates.row(1, 2, 3, 4, 99));
        check.dueFromTo(0, 4, IndexOutOfBoundsException.class, gate::spreadOf);
        check.due(0, gate.spreadOf(3));
        check.due(4, gate.spreadOf(4));
    }

    private void spreadOfNoPresentValues() {
        check.test("promise 41: no present values, in an empty table and beside MISSING");
        check.dueThrow(NoSuchElementException.class, () -> new QualityGate().spreadOf(0));
        QualityGate gate = Gates.withColumn(M, M);
        check.dueThrow(NoSuchElementException.class, () -> gate.spreadOf(0));
        check.due(0, gate.spreadOf(1));
    }

    private void spreadNoColumnBeforeNoValues() {
        check.test("promise 41: no such column comes before no present values");
        check.dueThrow(IndexOutOfBoundsException.class, () -> new QualityGate().spreadOf(5));
        check.dueThrow(IndexOutOfBoundsException.class, () -> new QualityGate().spreadOf(-1));
    }

    private void spreadOfOneAndTwo() {
        check.test("promise 41: of one value and of two it is 0, as the smaller distance is 0");
        check.due(0, Gates.withColumn(42).spreadOf(0));
        check.due(0, Gates.withColumn(-99, 99).spreadOf(0));
        check.due(1, Gates.withColumn(-1, 0, 99).spreadOf(0));
    }

    private void spreadOfFullTable() {
        check.test("promise 41: of twelve distances the sixth");
        // the median is 5, and the distances are 0, 1 1, 2 2, 3 3, 4 4, 5 5, 6
        check.due(3, Gates.full().spreadOf(0));
        check.due(0, Gates.full().spreadOf(1));
    }

    private void spreadOfExtremes() {
        check.test("promise 41: the greatest spread there is");
        check.due(99, Gates.withColumn(-99, 0, 99).spreadOf(0));
        check.due(99, Gates.withColumn(-99, -99, -99, -99, -99, 0, 99, 99, 99, 99, 99, 99).spreadOf(0));
        check.due(99, Gates.withColumn(0, 0, 99, -99, -99, 99, 99).spreadOf(0));
    }

    private void spreadWithoutMissing() {
        check.test("promise 41: MISSING has no distance");
        check.due(2, Gates.withColumn(M, 1, 3, 7, M, M, M).spreadOf(0));
    }

    // ---- promise 42

    private void outlierRowsAndColumns() {
        check.test("promise 42: the first to the last row of a full table, and the ids beside them");
        check.dueFromTo(0, 11, NoSuchElementException.class, id -> Gates.full().isOutlier(id, 4));
        check.test("promise 42: the first to the last column, and those beside them");
        check.dueFromTo(0, 4, IndexOutOfBoundsException.class, column -> Gates.full().isOutlier(11, column));
    }

    private void outlierInEmptyTable() {
        check.test("promise 42: there is no row in an empty table");
        check.dueThrow(NoSuchElementException.class, () -> new QualityGate().isOutlier(0, 0));
    }

    private void outlierNoRowBeforeNoColumn() {
        check.test("promise 42: no such row comes before no such column");
        check.dueThrow(NoSuchElementException.class, () -> Gates.full().isOutlier(12, 5));
        check.dueThrow(NoSuchElementException.class, () -> new QualityGate().isOutlier(-1, -1));
    }

    private void outlierOfRemovedAndStagedRow() {
        check.test("promise 42: a removed row and a staged row are not there");
        QualityGate gate = Gates.withColumn(1, 1, 9);
        gate.removeRow(2);
        gate.stage(9, 0, 0, 0, 0);
        check.dueThrow(NoSuchElementException.class, () -> gate.isOutlier(2, 0));
        check.dueThrow(NoSuchElementException.class, () -> gate.isOutlier(3, 0));
        gate.commit();
        check.due(true, gate.isOutlier(3, 0));
    }

    private void outlierIfMissing() {
        check.test("promise 42: MISSING is no outlier");
        QualityGate gate = Gates.withColumn(0, 0, 0, M, 1);
        gate.setFactor(1);
        check.due(false, gate.isOutlier(3, 0));
        check.due(true, gate.isOutlier(4, 0));
    }

    private void outlierInColumnWithoutPresentValues() {
        check.test("promise 42: no value of a column without present values is an outlier");
        QualityGate gate = Gates.withColumn(M, M, M);
        for (int id = 0; id < 3; id++) {
            check.due(false, gate.isOutlier(id, 0));
        }
    }

    /** The median is 10 and the spread 2; the rows 3 and 5 are 2 times the factor away from it, 4 and 6 one more. */
    private static QualityGate around(int factor) {
        QualityGate gate = Gates.withColumn(8, 10, 12, 10 + 2 * factor, 11 + 2 * factor, 10 - 2 * factor,
                9 - 2 * factor, 10, 9);
        gate.setFactor(factor);
        return gate;
    }

    private void outlierAtSpreadTimesFactor() {
        check.test("promise 42: the spread multiplied by each factor is no outlier, one more is, on both sides");
        for (int factor = 1; factor <= 9; factor++) {
            QualityGate gate = around(factor);
            check.due(10, gate.medianOf(0));
            check.due(2, gate.spreadOf(0));
            check.due(false, gate.isOutlier(3, 0));
            check.due(true, gate.isOutlier(4, 0));
            check.due(false, gate.isOutlier(5, 0));
            check.due(true, gate.isOutlier(6, 0));
        }
    }

    private void outlierAtSpreadZero() {
        check.test("promise 42: where the spread is 0, each value but the median is an outlier, at each factor");
        QualityGate gate = Gates.withColumn(5, 5, 5, 6, 4);
        for (int factor = 1; factor <= 9; factor += 4) {
            gate.setFactor(factor);
            check.due(false, gate.isOutlier(0, 0));
            check.due(true, gate.isOutlier(3, 0));
            check.due(true, gate.isOutlier(4, 0));
        }
    }

    private void outlierOfOneValue() {
        check.test("promise 42: one value alone is no outlier, and of two the greater one is");
        check.due(false, Gates.withColumn(99).isOutlier(0, 0));
        QualityGate two = Gates.withColumn(1, 0);
        check.due(true, two.isOutlier(0, 0));
        check.due(false, two.isOutlier(1, 0));
    }

    // ---- promise 43

    private void outliersColumns() {
        check.test("promise 43: the first to the last column, and those beside them");
        QualityGate gate = Gates.with(Gates.row(1, 1, 1, 1, 1), Gates.row(1, 1, 1, 1, 1), Gates.row(1, 1, 1, 1, 2));
        check.dueFromTo(0, 4, IndexOutOfBoundsException.class, gate::outliers);
        check.due(0, gate.outliers(3));
        check.due(1, gate.outliers(4));
        check.dueThrow(IndexOutOfBoundsException.class, () -> new QualityGate().outliers(5));
    }

    private void outliersOfEmptyTableAndNoPresentValues() {
        check.test("promise 43: an empty table and a column without present values");
        for (int column = 0; column < 5; column++) {
            check.due(0, new QualityGate().outliers(column));
            check.due(0, Gates.with(Gates.row(M, M, M, M, M), Gates.row(M, M, M, M, M)).outliers(column));
        }
    }

    private void outliersAtEachFactor() {
        check.test("promise 43: values at the spread multiplied by each factor, and beside it");
        for (int factor = 1; factor <= 9; factor++) {
            check.due(2, around(factor).outliers(0));
        }
    }

    private void outliersMost() {
        check.test("promise 43: six outliers of twelve values");
        check.due(6, Gates.withColumn(0, 0, 0, 0, 0, 0, 1, 2, 3, 4, 5, 6).outliers(0));
        check.due(3, Gates.withColumn(0, 0, 0, 0, 0, 1, 2, 3, 4, 5, 6, 7).outliers(0));
        check.due(0, Gates.full().outliers(0));
    }

    private void outliersWithoutMissingAndStagedRows() {
        check.test("promise 43: MISSING and staged rows do not count");
        QualityGate gate = Gates.withColumn(0, 0, M, M, 1);
        Gates.stageColumn(gate, 1, 1, 1);
        check.due(1, gate.outliers(0));
        gate.commit();
        check.due(2, gate.outliers(0));
    }
}
