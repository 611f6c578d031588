import java.util.NoSuchElementException;

/** Promises 44 to 49 at their bounds: profiles, drift, figures and the check of the two ways. */
final class ProfileEdgeTest {
    private static final int M = Gates.M;
    private final Check check;

    ProfileEdgeTest(Check check) {
        this.check = check;
    }

    void run() {
        saveProfile();
        drift();
        mostDrifted();
        meanOf();
        missingShare();
        isConsistent();
    }

    private void saveProfile() {
        saveEmptyTable();
        saveOneRowAndTwelve();
        refusedSaveLeavesTheProfile();
        laterProfileTakesThePlace();
        profileStays();
    }

    private void drift() {
        driftColumns();
        driftWithoutProfile();
        driftOfEmptyTable();
        driftExceptionsInOrder();
        driftOfNoneAndOfAll();
        driftOfOneRowAgainstTwelve();
        driftIsRoundedDown();
        driftAtEachBucket();
        driftOfMissing();
    }

    private void mostDrifted() {
        mostWithoutProfile();
        mostOfEmptyTable();
        mostExceptionsInOrder();
        mostOfNoDrift();
        mostIsFirstAndLast();
        mostIsTheSmallestOfSeveral();
    }

    private void meanOf() {
        meanColumns();
        meanOfNoPresentValues();
        meanNoColumnBeforeNoValues();
        meanOfExtremes();
        meanIsNotRounded();
        meanWithoutMissingAndStagedRows();
    }

    private void missingShare() {
        shareColumns();
        shareOfEmptyTable();
        shareNoColumnBeforeNoRows();
        shareOfNoneAndOfAll();
        shareOfTwelfths();
    }

    private void isConsistent() {
        consistentWithoutRows();
        consistentWhenFull();
        consistentChangesNothing();
    }

    // ---- promise 44

    private void saveEmptyTable() {
        check.test("promise 44: no profile of an empty table, though rows are staged");
        QualityGate gate = new QualityGate();
        check.dueThrow(IllegalStateException.class, gate::saveProfile);
        gate.stage(1, 1, 1, 1, 1);
        check.dueThrow(IllegalStateException.class, gate::saveProfile);
        check.dueThrow(NoSuchElementException.class, () -> gate.drift(0));
        gate.commit();
        check.dueThrow(NoSuchElementException.class, () -> gate.drift(0));
        check.due(1, gate.saveProfile());
    }

    private void saveOneRowAndTwelve() {
        check.test("promise 44: a table of one row and a full one");
        check.due(1, Gates.withColumn(M).saveProfile());
        check.due(12, Gates.full().saveProfile());
    }

    private void refusedSaveLeavesTheProfile() {
        check.test("promise 44: a refused call leaves the earlier profile");
        QualityGate gate = Gates.withColumn(50);
        gate.saveProfile();
        gate.removeRow(0);
        check.dueThrow(IllegalStateException.class, gate::saveProfile);
        Gates.add(gate, Gates.row(50, 0, 0, 0, 50));
        check.due(0, gate.drift(0));
        check.due(1000, gate.drift(4));
    }

    private void laterProfileTakesThePlace() {
        check.test("promise 44: a later profile takes the place of an earlier one in all of its counts");
        QualityGate gate = Gates.full();
        gate.saveProfile();
        for (int id = 1; id < 12; id++) {
            gate.removeRow(id);
        }
        gate.setValue(0, 0, M);
        check.due(1000, gate.drift(0));
        check.due(1, gate.saveProfile());
        check.due(0, gate.drift(0));
        gate.setValue(0, 0, 0);
        check.due(1000, gate.drift(0));
    }

    private void profileStays() {
        check.test("promise 44: the profile does not change with the table");
        QualityGate gate = Gates.withColumn(50, 50);
        check.due(2, gate.saveProfile());
        gate.setValue(0, 0, 0);
        gate.setValue(1, 0, 0);
        check.due(1000, gate.drift(0));
        gate.removeRow(0);
        check.due(1000, gate.drift(0));
        gate.setValue(1, 0, 50);
        check.due(0, gate.drift(0));
    }

    // ---- promise 45

    private void driftColumns() {
        check.test("promise 45: the first to the last column, and those beside them");
        QualityGate gate = Gates.full();
        gate.saveProfile();
        check.dueFromTo(0, 4, IndexOutOfBoundsException.class, gate::drift);
    }

    private void driftWithoutProfile() {
        check.test("promise 45: no profile was saved");
        for (int column = 0; column < 5; column++) {
            int at = column;
            check.dueThrow(NoSuchElementException.class, () -> Gates.full().drift(at));
        }
    }

    private static QualityGate emptied() {
        QualityGate gate = Gates.withColumn(1);
        gate.saveProfile();
        gate.removeRow(0);
        return gate;
    }

    private void driftOfEmptyTable() {
        check.test("promise 45: the table has no rows");
        QualityGate gate = emptied();
        gate.stage(1, 1, 1, 1, 1);
        check.dueThrow(IllegalStateException.class, () -> gate.drift(0));
        check.dueThrow(IllegalStateException.class, () -> gate.drift(4));
        gate.commit();
        check.due(0, gate.drift(0));
    }

    private void driftExceptionsInOrder() {
        check.test("promise 45: no such column, then no profile, then no rows");
        check.dueThrow(IndexOutOfBoundsException.class, () -> new QualityGate().drift(5));
        check.dueThrow(IndexOutOfBoundsException.class, () -> new QualityGate().drift(-1));
        check.dueThrow(NoSuchElementException.class, () -> new QualityGate().drift(0));
        check.dueThrow(IndexOutOfBoundsException.class, () -> Gates.full().drift(5));
        check.dueThrow(IndexOutOfBoundsException.class, () -> emptied().drift(5));
        check.dueThrow(IllegalStateException.class, () -> emptied().drift(4));
    }

    private void driftOfNoneAndOfAll() {
        check.test("promise 45: the smallest and the greatest drift of a full table");
        QualityGate gate = Gates.full();
        gate.saveProfile();
        check.due(0, gate.drift(0));
        for (int id = 0; id < 12; id++) {
            gate.setValue(id, 0, -1 - id);
        }
        check.due(1000, gate.drift(0));
    }

    private void driftOfOneRowAgainstTwelve() {
        check.test("promise 45: a full table against a profile of one row, and the other way round");
        QualityGate gate = Gates.withColumn(0);
        gate.saveProfile();
        for (int row = 1; row < 12; row++) {
            Gates.add(gate, Gates.row(row, 0, 0, 0, M));
        }
        check.due(0, gate.drift(0));
        check.due(916, gate.drift(4));
        check.due(12, gate.saveProfile());
        for (int id = 1; id < 12; id++) {
            gate.removeRow(id);
        }
        check.due(0, gate.drift(0));
        check.due(916, gate.drift(4));
        gate.setValue(0, 4, M);
        check.due(83, gate.drift(4));
        gate.setValue(0, 4, 99);
        check.due(1000, gate.drift(4));
    }

    private void driftIsRoundedDown() {
        check.test("promise 45: the drift is rounded down");
        int[] due = {0, 83, 166, 250, 333, 416, 500, 583, 666, 750, 833, 916, 1000};
        QualityGate gate = Gates.full();
        gate.saveProfile();
        for (int moved = 0; moved < 12; moved++) {
            check.due(due[moved], gate.drift(1));
            gate.setValue(moved, 1, 20);
        }
        check.due(due[12], gate.drift(1));
    }

    private void driftAtEachBucket() {
        check.test("promise 45: the last value of each bucket and the first one of the next");
        for (int first = -80; first <= 80; first += 20) {
            QualityGate gate = Gates.withColumn(first);
            gate.saveProfile();
            gate.setValue(0, 0, Math.min(first + 19, 99));
            check.due(0, gate.drift(0));
            gate.setValue(0, 0, first - 1);
            check.due(1000, gate.drift(0));
        }
        QualityGate lowest = Gates.withColumn(-99);
        lowest.saveProfile();
        lowest.setValue(0, 0, -81);
        check.due(0, lowest.drift(0));
        lowest.setValue(0, 0, -80);
        check.due(1000, lowest.drift(0));
    }

    private void driftOfMissing() {
        check.test("promise 45: MISSING has a bucket of its own, beside the highest value and the lowest one");
        QualityGate gate = Gates.withColumn(M);
        gate.saveProfile();
        check.due(0, gate.drift(0));
        gate.setValue(0, 0, 99);
        check.due(1000, gate.drift(0));
        gate.setValue(0, 0, -99);
        check.due(1000, gate.drift(0));
    }

    // ---- promise 46

    private void mostWithoutProfile() {
        check.test("promise 46: no profile was saved");
        check.dueThrow(NoSuchElementException.class, Gates.full()::mostDrifted);
    }

    private void mostOfEmptyTable() {
        check.test("promise 46: the table has no rows");
        QualityGate gate = emptied();
        gate.stage(1, 1, 1, 1, 1);
        check.dueThrow(IllegalStateException.class, gate::mostDrifted);
    }

    private void mostExceptionsInOrder() {
        check.test("promise 46: no profile comes before no rows");
        check.dueThrow(NoSuchElementException.class, new QualityGate()::mostDrifted);
    }

    private void mostOfNoDrift() {
        check.test("promise 46: the column 0, if no column drifts");
        QualityGate gate = Gates.full();
        gate.saveProfile();
        check.due(0, gate.mostDrifted());
    }

    private void mostIsFirstAndLast() {
        check.test("promise 46: each column alone, from the first to the last");
        for (int column = 0; column < 5; column++) {
            QualityGate gate = Gates.full();
            gate.saveProfile();
            gate.setValue(11, column, -50);
            check.due(column, gate.mostDrifted());
        }
    }

    private void mostIsTheSmallestOfSeveral() {
        check.test("promise 46: of several columns the one with the smallest number");
        QualityGate gate = Gates.full();
        gate.saveProfile();
        gate.setValue(3, 4, M);
        gate.setValue(5, 2, M);
        gate.setValue(6, 3, M);
        check.due(2, gate.mostDrifted());
        gate.setValue(7, 4, M);
        gate.setValue(7, 3, M);
        check.due(3, gate.mostDrifted());
        gate.setValue(8, 4, M);
        check.due(4, gate.mostDrifted());
        for (int id = 0; id < 12; id++) {
            gate.setValue(id, 0, M);
            gate.setValue(id, 4, M);
        }
        check.due(0, gate.mostDrifted());
    }

    // ---- promise 47

    private void meanColumns() {
        check.test("promise 47: the first to the last column, and those beside them");
        QualityGate gate = Gates.with(Gates.row(1, 2, 3, 4, 5));
        check.dueFromTo(0, 4, IndexOutOfBoundsException.class, gate::meanOf);
        check.due(1.0, gate.meanOf(0));
        check.due(5.0, gate.meanOf(4));
    }

    private void meanOfNoPresentValues() {
        check.test("promise 47: no present values, in an empty table and beside MISSING");
        check.dueThrow(ArithmeticException.class, () -> new QualityGate().meanOf(0));
        QualityGate gate = Gates.with(Gates.row(M, 0, 0, 0, M), Gates.row(M, 0, 0, 0, M));
        check.dueThrow(ArithmeticException.class, () -> gate.meanOf(0));
        check.dueThrow(ArithmeticException.class, () -> gate.meanOf(4));
        check.due(0.0, gate.meanOf(1));
        gate.setValue(0, 4, 7);
        check.due(7.0, gate.meanOf(4));
    }

    private void meanNoColumnBeforeNoValues() {
        check.test("promise 47: no such column comes before no present values");
        check.dueThrow(IndexOutOfBoundsException.class, () -> new QualityGate().meanOf(5));
        check.dueThrow(IndexOutOfBoundsException.class, () -> new QualityGate().meanOf(-1));
    }

    private void meanOfExtremes() {
        check.test("promise 47: a full table of the lowest and of the highest values");
        int[] lowest = {-99, -99, -99, -99, -99, -99, -99, -99, -99, -99, -99, -99};
        int[] highest = {99, 99, 99, 99, 99, 99, 99, 99, 99, 99, 99, 99};
        check.due(-99.0, Gates.withColumn(lowest).meanOf(0));
        check.due(99.0, Gates.withColumn(highest).meanOf(0));
        check.due(0.0, Gates.withColumn(-99, 99).meanOf(0));
    }

    private void meanIsNotRounded() {
        check.test("promise 47: the mean is a double, below 0 too");
        check.due(0.5, Gates.withColumn(0, 1).meanOf(0));
        check.due(-0.5, Gates.withColumn(0, -1).meanOf(0));
        check.due(1.0 / 3.0, Gates.withColumn(0, 0, 1).meanOf(0));
        check.due(-7.0 / 11.0, Gates.withColumn(0, 0, 0, 0, 0, 0, 0, 0, 0, 0, -7).meanOf(0));
    }

    private void meanWithoutMissingAndStagedRows() {
        check.test("promise 47: MISSING and staged rows do not count");
        QualityGate gate = Gates.withColumn(M, 2, M, 4);
        Gates.stageColumn(gate, 99, 99);
        check.due(3.0, gate.meanOf(0));
    }

    // ---- promise 48

    private void shareColumns() {
        check.test("promise 48: the first to the last column, and those beside them");
        QualityGate gate = Gates.with(Gates.row(M, 0, 0, 0, M), Gates.row(0, 0, 0, 0, M));
        check.dueFromTo(0, 4, IndexOutOfBoundsException.class, gate::missingShare);
        check.due(0.5f, gate.missingShare(0));
        check.due(0.0f, gate.missingShare(3));
        check.due(1.0f, gate.missingShare(4));
    }

    private void shareOfEmptyTable() {
        check.test("promise 48: the table has no rows");
        QualityGate gate = emptied();
        gate.stage(M, M, M, M, M);
        check.dueThrow(ArithmeticException.class, () -> gate.missingShare(0));
        check.dueThrow(ArithmeticException.class, () -> new QualityGate().missingShare(4));
    }

    private void shareNoColumnBeforeNoRows() {
        check.test("promise 48: no such column comes before no rows");
        check.dueThrow(IndexOutOfBoundsException.class, () -> new QualityGate().missingShare(5));
        check.dueThrow(IndexOutOfBoundsException.class, () -> new QualityGate().missingShare(-1));
    }

    private void shareOfNoneAndOfAll() {
        check.test("promise 48: no value and all values of one row and of a full table");
        check.due(0.0f, Gates.withColumn(99).missingShare(0));
        check.due(1.0f, Gates.withColumn(M).missingShare(0));
        check.due(0.0f, Gates.full().missingShare(0));
        check.due(1.0f, Gates.withColumn(M, M, M, M, M, M, M, M, M, M, M, M).missingShare(0));
    }

    private void shareOfTwelfths() {
        check.test("promise 48: the share is a float, and staged rows do not count");
        QualityGate gate = Gates.full();
        gate.stage(M, M, M, M, M);
        for (int id = 0; id < 12; id++) {
            check.due((float) id / 12.0f, gate.missingShare(2));
            gate.setValue(id, 2, M);
        }
        check.due(1.0f, gate.missingShare(2));
    }

    // ---- promise 49

    private void consistentWithoutRows() {
        check.test("promise 49: an empty table, with rules and staged rows too");
        check.due(true, new QualityGate().isConsistent());
        QualityGate gate = new QualityGate();
        gate.addRequired(0, false);
        gate.stage(M, M, M, M, M);
        check.due(true, gate.isConsistent());
    }

    private static QualityGate crowded() {
        QualityGate gate = Gates.full();
        for (int column = 0; column < 5; column++) {
            gate.addUnique(column, column % 2 == 0);
            gate.addDependency(0, column, column % 2 == 1);
        }
        Gates.fillBatch(gate);
        return gate;
    }

    private void consistentWhenFull() {
        check.test("promise 49: a full table with ten rules and a full batch");
        check.due(true, crowded().isConsistent());
        check.due(true, Gates.full().isConsistent());
        check.due(true, Gates.withColumn(M, M, M, M, M, M, M, M, M, M, M, M).isConsistent());
    }

    private void consistentChangesNothing() {
        check.test("promise 49: the check changes nothing");
        QualityGate gate = crowded();
        String before = new Look(gate).all();
        check.due(true, gate.isConsistent());
        check.due(before, new Look(gate).all());
    }
}
