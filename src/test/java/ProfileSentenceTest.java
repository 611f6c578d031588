import java.util.NoSuchElementException;

/** The sentences of the promises 44 to 49. */
final class ProfileSentenceTest {
    private static final int M = Gates.M;

    private final Check check;
    private final Sentences document;

    ProfileSentenceTest(Check check, Sentences document) {
        this.check = check;
        this.document = document;
    }

    void run() {
        saveProfile();
        drift();
        mostDrifted();
        meanOf();
        missingShare();
        isConsistent();
    }

    private static String drifts(QualityGate gate) {
        StringBuilder text = new StringBuilder();
        for (int column = 0; column < 5; column++) {
            text.append(column == 0 ? "" : " ").append(gate.drift(column));
        }
        return text.toString();
    }

    private interface ColumnCall {
        Object on(QualityGate gate, int column);
    }

    private void noSuchColumn(ColumnCall call) {
        document.says("Throws `IndexOutOfBoundsException` if there is no such column");
        QualityGate gate = Gates.with(Gates.row(1, 2, 3, 4, 5));
        gate.saveProfile();
        check.dueFromTo(0, 4, IndexOutOfBoundsException.class, column -> call.on(gate, column));
        check.dueThrow(IndexOutOfBoundsException.class, () -> call.on(new QualityGate(), 5));
        check.dueThrow(IndexOutOfBoundsException.class, () -> call.on(new QualityGate(), -1));
        gate.removeRow(0);
        check.dueThrow(IndexOutOfBoundsException.class, () -> call.on(gate, 5));
    }

    private interface GateCall {
        Object on(QualityGate gate);
    }

    private void noRows(GateCall call, Class<? extends RuntimeException> want) {
        QualityGate gate = Gates.withColumn(5);
        gate.saveProfile();
        check.due(false, Check.ownOutcome(() -> call.on(gate)).toString().contains("throws"));
        gate.removeRow(0);
        gate.stage(1, 2, 3, 4, 5);
        check.dueThrow(want, () -> call.on(gate));
        gate.commit();
        check.due(false, Check.ownOutcome(() -> call.on(gate)).toString().contains("throws"));
        gate.addRange(0, 2, 2, false);
        gate.repair();
        check.dueThrow(want, () -> call.on(gate));
    }

    private void noProfile(GateCall call) {
        document.says("Throws `NoSuchElementException` if no profile was saved");
        check.dueThrow(NoSuchElementException.class, () -> call.on(new QualityGate()));
        QualityGate gate = Gates.full();
        check.dueThrow(NoSuchElementException.class, () -> call.on(gate));
        QualityGate empty = new QualityGate();
        check.dueThrow(IllegalStateException.class, empty::saveProfile);
        check.dueThrow(NoSuchElementException.class, () -> call.on(empty));
        empty.stage(1, 2, 3, 4, 5);
        empty.commit();
        check.dueThrow(NoSuchElementException.class, () -> call.on(empty));
        empty.saveProfile();
        check.due(false, Check.ownOutcome(() -> call.on(empty)).toString().contains("throws"));
    }

    // ---- promises 44 to 46

    private void saveProfile() {
        document.section("promise 44");
        document.says("Saves the profile of the table, in place of an earlier one.");
        QualityGate gate = Gates.with(Gates.row(0, 0, 0, 0, 0), Gates.row(0, 0, 0, M, 0));
        gate.stage(99, 99, 99, 99, 99);
        gate.saveProfile();
        check.due("0 0 0 0 0", drifts(gate));
        gate.setValue(0, 0, 50);
        gate.setValue(1, 0, 50);
        gate.setValue(1, 3, -50);
        check.due("1000 0 0 500 0", drifts(gate));
        gate.saveProfile();
        check.due("0 0 0 0 0", drifts(gate));
        gate.setValue(0, 0, 0);
        gate.setValue(0, 1, M);
        check.due("500 500 0 0 0", drifts(gate));
        gate.commit();
        check.due("666 666 333 333 333", drifts(gate));

        document.says("Returns the number of rows of the profile.");
        QualityGate full = Gates.full();
        for (int rows = 12; rows >= 1; rows--) {
            check.due(rows, full.saveProfile());
            check.due(rows, full.saveProfile());
            full.removeRow(rows - 1);
        }

        document.says("Throws `IllegalStateException` if the table has no rows");
        check.dueThrow(IllegalStateException.class, new QualityGate()::saveProfile);
        check.dueThrow(IllegalStateException.class, full::saveProfile);
        noRows(QualityGate::saveProfile, IllegalStateException.class);
        full.stage(0, 0, 0, 0, 0);
        full.commit();
        check.due("0 0 0 0 0", drifts(full));
    }

    private void drift() {
        document.section("promise 45");
        document.says("Returns the drift of a column.");
        QualityGate gate = Gates.withColumn(0, 20, 40, 60);
        gate.saveProfile();
        check.due(0, gate.drift(0));
        gate.setValue(0, 0, 19);
        check.due(0, gate.drift(0));
        gate.setValue(0, 0, -1);
        check.due(250, gate.drift(0));
        gate.setValue(0, 0, M);
        check.due(250, gate.drift(0));
        gate.setValue(1, 0, 79);
        check.due(500, gate.drift(0));
        gate.stage(-99, 0, 0, 0, 0);
        check.due(500, gate.drift(0));
        gate.commit();
        check.due(550, gate.drift(0));

        document.says("- `column`: the column");
        QualityGate columns = Gates.with(Gates.row(0, 0, 0, 0, 0), Gates.row(0, 0, 0, 0, 0), Gates.row(0, 0, 0, 0, 0),
                Gates.row(0, 0, 0, 0, 0));
        columns.saveProfile();
        for (int column = 0; column < 5; column++) {
            for (int id = 0; id < column; id++) {
                columns.setValue(id, column, 90);
            }
        }
        check.due("0 250 500 750 1000", drifts(columns));

        document.says("Returns the drift, 0 to 1000.");
        QualityGate far = Gates.full();
        far.saveProfile();
        for (int id = 0; id < 12; id++) {
            check.due(1000 * id / 12, far.drift(0));
            far.setValue(id, 0, id % 2 == 0 ? M : -99);
        }
        check.due(1000, far.drift(0));
        for (int id = 0; id < 11; id++) {
            far.removeRow(id);
            check.due("1000 0 0 0 0", drifts(far));
        }
        noSuchColumn(QualityGate::drift);
        noProfile(each -> each.drift(4));

        document.says("Throws `IllegalStateException` if the table has no rows");
        noRows(each -> each.drift(0), IllegalStateException.class);
    }

    private void mostDrifted() {
        document.section("promise 46");
        document.says("Returns the column with the greatest drift; of several, the one with the smallest number.");
        QualityGate gate = Gates.with(Gates.row(0, 0, 0, 0, 0), Gates.row(0, 0, 0, 0, 0), Gates.row(0, 0, 0, 0, 0));
        gate.saveProfile();
        check.due(0, gate.mostDrifted());
        gate.setValue(0, 3, M);
        check.due(3, gate.mostDrifted());
        gate.setValue(1, 1, 50);
        check.due(1, gate.mostDrifted());
        gate.setValue(1, 4, 50);
        gate.setValue(2, 4, -50);
        check.due(4, gate.mostDrifted());
        gate.setValue(0, 2, 50);
        gate.setValue(2, 2, 60);
        check.due(2, gate.mostDrifted());
        gate.saveProfile();
        check.due(0, gate.mostDrifted());

        document.says("Returns the column.");
        for (int column = 0; column < 5; column++) {
            QualityGate one = Gates.withColumn(0, 0);
            one.saveProfile();
            one.setValue(0, column, M);
            check.due(column, one.mostDrifted());
            one.setValue(1, 4, 80);
            one.setValue(0, 4, 80);
            check.due(4, one.mostDrifted());
        }
        noProfile(QualityGate::mostDrifted);

        document.says("Throws `IllegalStateException` if the table has no rows");
        noRows(QualityGate::mostDrifted, IllegalStateException.class);
    }

    // ---- promises 47 and 48

    private void meanOf() {
        document.section("promise 47");
        document.says("Returns the mean of a column: the sum of its present values divided by their number, both"
                + " converted to double.");
        check.due(2.0, Gates.withColumn(1, 2, 3).meanOf(0));
        check.due(10.0 / 3.0, Gates.withColumn(1, 2, 7, M).meanOf(0));
        check.due(-1.0 / 7.0, Gates.withColumn(-1, 0, 0, M, 0, 0, M, 0, 0).meanOf(0));
        check.due(0.0, Gates.withColumn(-5, 5).meanOf(0));
        QualityGate gate = Gates.withColumn(5);
        gate.stage(9, 9, 9, 9, 9);
        check.due(5.0, gate.meanOf(0));

        document.says("- `column`: the column");
        QualityGate columns = Gates.with(Gates.row(1, -2, M, 4, 5), Gates.row(2, -3, 9, M, 6),
                Gates.row(4, -5, M, M, 8));
        double[] want = {7.0 / 3.0, -10.0 / 3.0, 9.0, 4.0, 19.0 / 3.0};
        for (int column = 0; column < 5; column++) {
            check.due(want[column], columns.meanOf(column));
        }

        document.says("Returns the mean.");
        check.due(-99.0, Gates.withColumn(-99, -99, M).meanOf(0));
        check.due(99.0, Gates.withColumn(99).meanOf(0));
        check.due(5.5, Gates.full().meanOf(0));
        check.due(1186.0 / 12.0, Gates.withColumn(99, 99, 99, 99, 99, 99, 99, 99, 99, 99, 98, 98).meanOf(0));
        noSuchColumn(QualityGate::meanOf);

        document.says("Throws `ArithmeticException` if the column has no present values");
        noRows(each -> each.meanOf(0), ArithmeticException.class);
        check.dueThrow(ArithmeticException.class, () -> new QualityGate().meanOf(4));
        check.dueThrow(ArithmeticException.class, () -> Gates.withColumn(M, M).meanOf(0));
        check.due(0.0, Gates.withColumn(M, M).meanOf(1));
    }

    private void missingShare() {
        document.section("promise 48");
        document.says("Returns the share of missing values in a column: the number of rows whose value in the column"
                + " is MISSING divided by the number of rows, both converted to float.");
        check.due(0.0f, Gates.withColumn(1, 2, 3).missingShare(0));
        check.due(1.0f / 3.0f, Gates.withColumn(1, M, 3).missingShare(0));
        check.due(1.0f, Gates.withColumn(M, M).missingShare(0));
        QualityGate gate = Gates.withColumn(5);
        gate.stage(M, M, M, M, M);
        check.due(0.0f, gate.missingShare(0));

        document.says("- `column`: the column");
        QualityGate columns = Gates.with(Gates.row(1, M, M, 4, M), Gates.row(2, M, 9, M, M), Gates.row(4, M, M, 99, 8));
        float[] want = {0.0f, 1.0f, 2.0f / 3.0f, 1.0f / 3.0f, 2.0f / 3.0f};
        for (int column = 0; column < 5; column++) {
            check.due(want[column], columns.missingShare(column));
        }

        document.says("Returns the share.");
        QualityGate full = Gates.full();
        for (int missing = 0; missing < 12; missing++) {
            check.due((float) missing / 12.0f, full.missingShare(0));
            full.setValue(missing, 0, M);
        }
        check.due(1.0f, full.missingShare(0));
        for (int rows = 12; rows > 1; rows--) {
            full.setValue(rows - 1, 1, M);
            check.due(1.0f / (float) rows, full.missingShare(1));
            full.removeRow(rows - 1);
        }
        noSuchColumn(QualityGate::missingShare);

        document.says("Throws `ArithmeticException` if the table has no rows");
        noRows(each -> each.missingShare(0), ArithmeticException.class);
        check.dueThrow(ArithmeticException.class, () -> new QualityGate().missingShare(4));
    }

    // ---- promise 49

    /** A gate with twelve rows of few values, which break rules and conflict, or repeat one another. */
    private static QualityGate mixed(int seed) {
        QualityGate gate = new QualityGate();
        int rows = seed % 13;
        for (int row = 0; row < rows; row++) {
            int mix = (row + 1) * (2 * seed + 7) % 101;
            Gates.add(gate, Gates.row(mix % 7, mix % 5, mix % 3, mix % 2 == 0 ? M : mix % 4, mix / 11));
        }
        gate.addUnique(seed % 5, false);
        gate.addDependency(1 << (seed + 1) % 5, (seed + 2) % 5, true);
        gate.addRange(0, 0, 5, false);
        gate.addOrder(1, 2, seed % 2 == 0);
        return gate;
    }

    private void isConsistent() {
        document.section("promise 49");
        document.says("Checks the methods that work in two ways: fewestRemovals() and fewestRemovalsByTrying() return"
                + " the same number; determines() and determinesByPairs() return the same for all sets and columns;"
                + " minimalCount() and minimalCountByTrying() return the same number for all columns.");
        for (int seed = 0; seed < 60; seed++) {
            QualityGate gate = mixed(seed);
            boolean isSame = gate.fewestRemovals() == gate.fewestRemovalsByTrying();
            for (int column = 0; column < 5; column++) {
                isSame &= gate.minimalCount(column) == gate.minimalCountByTrying(column);
                for (int set = 0; set < 32; set++) {
                    isSame &= gate.determines(set, column) == gate.determinesByPairs(set, column);
                }
            }
            check.due(true, isSame);
            check.due(isSame, gate.isConsistent());
        }

        document.says("Returns whether all of this is true.");
        check.due(true, new QualityGate().isConsistent());
        check.due(true, Gates.withColumn(M).isConsistent());
        check.due(true, Gates.full().isConsistent());
        QualityGate gate = Gates.full();
        gate.addUnique(1, true);
        gate.addRequired(2, false);
        gate.setValue(4, 2, M);
        gate.stage(1, 1, 1, 1, 1);
        check.due(true, gate.isConsistent());
        check.due(12, gate.rowCount());
        gate.repair();
        check.due(true, gate.isConsistent());
        check.due("0", Gates.ids(gate));
        check.due(1, gate.staged());
    }
}
