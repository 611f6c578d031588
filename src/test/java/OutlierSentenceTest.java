import java.util.NoSuchElementException;

/** The sentences of the promises 39 to 43. */
final class OutlierSentenceTest {
    private static final int M = Gates.M;

    private final Check check;
    private final Sentences document;

    OutlierSentenceTest(Check check, Sentences document) {
        this.check = check;
        this.document = document;
    }

    void run() {
        setFactor();
        medianOf();
        spreadOf();
        isOutlier();
        outliers();
    }

    /** The medians are 1, -7, 30 and 0, and the spreads 1, 0, 10 and 0; column 3 has no present values. */
    private static QualityGate readings() {
        return Gates.with(Gates.row(1, -7, 20, M, 0), Gates.row(0, -7, 40, M, 0), Gates.row(2, M, 60, M, 0),
                Gates.row(5, -7, 99, M, 0), Gates.row(M, -8, -60, M, 0), Gates.row(-2, 90, 30, M, 0));
    }

    private interface ColumnCall {
        Object on(QualityGate gate, int column);
    }

    private void noSuchColumn(ColumnCall call) {
        document.says("Throws `IndexOutOfBoundsException` if there is no such column");
        QualityGate gate = Gates.with(Gates.row(1, 2, 3, 4, 5));
        check.dueFromTo(0, 4, IndexOutOfBoundsException.class, column -> call.on(gate, column));
        check.dueThrow(IndexOutOfBoundsException.class, () -> call.on(new QualityGate(), 5));
        check.dueThrow(IndexOutOfBoundsException.class, () -> call.on(new QualityGate(), -1));
    }

    private void noPresentValues(ColumnCall call) {
        document.says("Throws `NoSuchElementException` if the column has no present values");
        for (int at = 0; at < 5; at++) {
            int column = at;
            check.dueThrow(NoSuchElementException.class, () -> call.on(new QualityGate(), column));
        }
        QualityGate gate = readings();
        check.dueThrow(NoSuchElementException.class, () -> call.on(gate, 3));
        gate.setValue(5, 3, 0);
        check.due(false, Check.ownOutcome(() -> call.on(gate, 3)).toString().contains("throws"));
        gate.removeRow(5);
        check.dueThrow(NoSuchElementException.class, () -> call.on(gate, 3));
        gate.stage(1, 1, 1, 1, 1);
        check.dueThrow(NoSuchElementException.class, () -> call.on(gate, 3));
    }

    private void setFactor() {
        document.section("promise 39");
        document.says("Sets the factor for outliers.");
        QualityGate gate = readings();
        check.due("1 true false", gate.outliers(0) + " " + gate.isOutlier(3, 0) + " " + gate.isOutlier(5, 0));
        gate.setFactor(2);
        check.due("2 true true", gate.outliers(0) + " " + gate.isOutlier(3, 0) + " " + gate.isOutlier(5, 0));
        gate.setFactor(4);
        check.due("0 false false", gate.outliers(0) + " " + gate.isOutlier(3, 0) + " " + gate.isOutlier(5, 0));

        document.says("- `factor`: the new factor, 1 to 9");
        for (int factor = 1; factor <= 9; factor++) {
            QualityGate each = Gates.withColumn(0, 0, 0, -1, 1, -1, 1, factor, factor + 1);
            each.setFactor(factor);
            check.due(false, each.isOutlier(7, 0));
            check.due(true, each.isOutlier(8, 0));
        }

        document.says("Returns the previous factor.");
        QualityGate fresh = new QualityGate();
        check.due("3 1 9 9", fresh.setFactor(1) + " " + fresh.setFactor(9) + " " + fresh.setFactor(9) + " "
                + fresh.setFactor(5));

        document.says("Throws `IllegalArgumentException` if the factor is out of range");
        check.dueFromTo(1, 9, IllegalArgumentException.class, fresh::setFactor);
        for (int wrong : new int[] {0, -1, -3, 10, 11, 100, Integer.MIN_VALUE}) {
            check.dueThrow(IllegalArgumentException.class, () -> fresh.setFactor(wrong));
        }
        check.due(9, fresh.setFactor(3));
    }

    private void medianOf() {
        document.section("promise 40");
        document.says("Returns the median of a column.");
        QualityGate gate = readings();
        check.due("1 -7", gate.medianOf(0) + " " + gate.medianOf(1));
        gate.removeRow(0);
        check.due("0 -7", gate.medianOf(0) + " " + gate.medianOf(1));
        gate.stage(-50, -50, 0, 0, 0);
        check.due(0, gate.medianOf(0));

        document.says("- `column`: the column");
        QualityGate columns = readings();
        check.due("1 -7 30 0", columns.medianOf(0) + " " + columns.medianOf(1) + " " + columns.medianOf(2) + " "
                + columns.medianOf(4));

        document.says("Returns the median.");
        check.due(-99, Gates.withColumn(-99).medianOf(0));
        check.due(98, Gates.withColumn(99, 98).medianOf(0));
        check.due(-99, Gates.withColumn(M, 99, -99, M).medianOf(0));
        check.due(5, Gates.full().medianOf(0));
        noSuchColumn(QualityGate::medianOf);
        noPresentValues(QualityGate::medianOf);
    }

    private void spreadOf() {
        document.section("promise 41");
        document.says("Returns the spread of a column.");
        QualityGate gate = readings();
        check.due("1 0", gate.spreadOf(0) + " " + gate.spreadOf(1));
        gate.setValue(1, 0, -9);
        check.due(3, gate.spreadOf(0));
        gate.setValue(0, 1, -5);
        check.due(1, gate.spreadOf(1));

        document.says("- `column`: the column");
        QualityGate columns = readings();
        check.due("1 0 10 0", columns.spreadOf(0) + " " + columns.spreadOf(1) + " " + columns.spreadOf(2) + " "
                + columns.spreadOf(4));

        document.says("Returns the spread.");
        check.due(0, Gates.withColumn(77).spreadOf(0));
        check.due(0, Gates.withColumn(-99, 99).spreadOf(0));
        check.due(99, Gates.withColumn(-99, 99, 0).spreadOf(0));
        check.due(3, Gates.full().spreadOf(0));
        noSuchColumn(QualityGate::spreadOf);
        noPresentValues(QualityGate::spreadOf);
    }

    private void isOutlier() {
        document.section("promise 42");
        document.says("Tells whether a value of the table is an outlier.");
        QualityGate gate = readings();
        check.due("- - - 3 - -", outliersOf(gate, 0));
        check.due("- - - - 4 5", outliersOf(gate, 1));

        document.says("- `id`: the id of the row");
        gate.removeRow(2);
        gate.removeRow(4);
        check.due(true, gate.isOutlier(5, 1));
        check.due(false, gate.isOutlier(3, 1));

        document.says("- `column`: the column");
        QualityGate columns = readings();
        columns.setFactor(1);
        check.due("- - - 3 - 5", outliersOf(columns, 0));
        check.due("- - - - 4 5", outliersOf(columns, 1));
        check.due("- - 2 3 4 -", outliersOf(columns, 2));
        check.due("- - - - - -", outliersOf(columns, 4));

        document.says("Returns whether it is an outlier; false if it is MISSING.");
        check.due("- - - - - -", outliersOf(columns, 3));
        check.due(false, columns.isOutlier(4, 0));
        columns.setValue(5, 1, M);
        check.due("- - - - 4 -", outliersOf(columns, 1));
        // the median is 10 and the spread 2: 16 and 4 are three times as far away, 17 and 3 farther
        QualityGate bound = Gates.withColumn(8, 10, 12, 16, 17, 4, 3, 10, 9, M);
        check.due("- - - - 4 - 6 - - -", outliersOf(bound, 0));
        noSuchRow();

        document.says("Throws `IndexOutOfBoundsException` if there is no such column");
        check.dueFromTo(0, 4, IndexOutOfBoundsException.class, column -> readings().isOutlier(5, column));
        check.dueThrow(IndexOutOfBoundsException.class, () -> columns.isOutlier(0, 31));
    }

    /** The ids of the rows whose values are outliers, and - for the others. */
    private static String outliersOf(QualityGate gate, int column) {
        StringBuilder text = new StringBuilder();
        for (int position = 0; position < gate.rowCount(); position++) {
            int id = gate.rowAt(position);
            text.append(position == 0 ? "" : " ").append(gate.isOutlier(id, column) ? String.valueOf(id) : "-");
        }
        return text.toString();
    }

    private void noSuchRow() {
        document.says("Throws `NoSuchElementException` if there is no such row");
        QualityGate gate = readings();
        gate.removeRow(1);
        gate.stage(1, 1, 1, 1, 1);
        for (int id : new int[] {-1, 1, 6, 7, 12, Integer.MIN_VALUE, Integer.MAX_VALUE}) {
            check.dueThrow(NoSuchElementException.class, () -> gate.isOutlier(id, 0));
            check.dueThrow(NoSuchElementException.class, () -> gate.isOutlier(id, 5));
            check.dueThrow(NoSuchElementException.class, () -> new QualityGate().isOutlier(id, 0));
        }
    }

    private void outliers() {
        document.section("promise 43");
        document.says("Returns the number of outliers in a column.");
        QualityGate gate = readings();
        check.due("1 2", gate.outliers(0) + " " + gate.outliers(1));
        gate.setFactor(1);
        check.due("2 2", gate.outliers(0) + " " + gate.outliers(1));
        gate.setValue(4, 1, -7);
        check.due(1, gate.outliers(1));

        document.says("- `column`: the column");
        check.due("2 1 3 0 0", gate.outliers(0) + " " + gate.outliers(1) + " " + gate.outliers(2) + " "
                + gate.outliers(3)
                + " " + gate.outliers(4));

        document.says("Returns the number of outliers.");
        check.due(0, new QualityGate().outliers(0));
        check.due(0, Gates.withColumn(99).outliers(0));
        check.due(1, Gates.withColumn(99, -99).outliers(0));
        check.due(5, Gates.withColumn(0, 0, 0, 0, 0, 0, 0, 5, 6, -7, 8, 9).outliers(0));
        check.due(0, Gates.withColumn(M, M).outliers(0));
        QualityGate staged = Gates.withColumn(1, 1, 1);
        Gates.stageColumn(staged, 9, 9);
        check.due(0, staged.outliers(0));
        staged.commit();
        check.due(2, staged.outliers(0));
        noSuchColumn(QualityGate::outliers);
    }
}
