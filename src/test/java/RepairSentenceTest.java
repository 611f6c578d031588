import java.util.NoSuchElementException;

/** The sentences of the promises 26 to 29. */
final class RepairSentenceTest {
    private static final int M = Gates.M;

    private final Check check;
    private final Sentences document;

    RepairSentenceTest(Check check, Sentences document) {
        this.check = check;
        this.document = document;
    }

    void run() {
        fewestRemovals();
        fewestRemovalsByTrying();
        isInRepair();
        repair();
    }

    /** A gate whose rows have these values in the columns 0 and 1, which are unique; column 2 is required. */
    private static QualityGate unique(int[]... rows) {
        QualityGate gate = new QualityGate();
        gate.addUnique(0, false);
        gate.addUnique(1, false);
        gate.addRequired(2, false);
        for (int[] row : rows) {
            Gates.add(gate, Gates.row(row[0], row[1], 0, 0, 0));
        }
        return gate;
    }

    /** Row 0 conflicts with the rows 1, 2 and 3, and each of these with one of the rows 4, 5 and 6. */
    private static QualityGate spider() {
        QualityGate gate = Gates.with(Gates.row(1, 2, 3, 0, 0), Gates.row(1, 10, 11, 0, 0), Gates.row(12, 2, 13, 0, 0),
                Gates.row(14, 15, 3, 0, 0), Gates.row(20, 10, 21, 0, 0), Gates.row(12, 22, 23, 0, 0),
                Gates.row(14, 24, 25, 0, 0));
        gate.addUnique(0, false);
        gate.addUnique(1, false);
        gate.addUnique(2, false);
        return gate;
    }

    private interface Counting {
        int in(QualityGate gate);
    }

    private void dueFewest(Counting counting) {
        check.due(0, counting.in(new QualityGate()));
        check.due(0, counting.in(Gates.full()));
        check.due(3, counting.in(spider()));
        check.due(1, counting.in(unique(new int[] {1, 1}, new int[] {1, 2})));
        check.due(1, counting.in(unique(new int[] {1, 1}, new int[] {1, 2}, new int[] {3, 1})));
        check.due(2, counting.in(unique(new int[] {1, 1}, new int[] {1, 2}, new int[] {3, 2}, new int[] {3, 4})));
        check.due(2, counting.in(unique(new int[] {1, 1}, new int[] {1, 2}, new int[] {1, 3})));
    }

    private void dueFewestOfMany(Counting counting) {
        QualityGate gate = Gates.full();
        gate.addUnique(1, false);
        check.due(11, counting.in(gate));
        gate.addRange(0, 50, 60, true);
        check.due(12, counting.in(gate));
        gate.stage(M, 0, 0, 0, 0);
        check.due(12, counting.in(gate));
        gate.dropRule(0);
        check.due(12, counting.in(gate));
        gate.setValue(3, 0, 50);
        check.due(11, counting.in(gate));
        gate.dropRule(1);
        check.due(0, counting.in(gate));
        QualityGate pairs = Gates.full();
        for (int id = 0; id < 12; id++) {
            pairs.setValue(id, 1, id % 6);
        }
        pairs.addDependency(2, 0, false);
        check.due(6, counting.in(pairs));
        pairs.addRange(0, 6, 11, false);
        check.due(6, counting.in(pairs));
        pairs.addRange(0, 0, 9, false);
        check.due(8, counting.in(pairs));
    }

    private void fewestRemovals() {
        document.section("promise 26");
        document.says("Returns the number of rows of the best repair, found by deciding row after row and leaving out"
                + " choices that cannot be better.");
        dueFewest(QualityGate::fewestRemovals);

        document.says("Returns the number of rows.");
        dueFewestOfMany(QualityGate::fewestRemovals);
    }

    private void fewestRemovalsByTrying() {
        document.section("promise 27");
        document.says("Returns the same number in a second way: by trying all sets of rows.");
        dueFewest(QualityGate::fewestRemovalsByTrying);

        document.says("Returns the same number.");
        dueFewestOfMany(QualityGate::fewestRemovalsByTrying);
    }

    private void isInRepair() {
        document.section("promise 28");
        document.says("Tells whether a row belongs to the best repair.");
        check.due("1 2 3", Gates.inRepair(spider()));
        check.due("", Gates.inRepair(Gates.full()));
        check.due("1", Gates.inRepair(unique(new int[] {1, 1}, new int[] {1, 2})));
        check.due("1 3", Gates.inRepair(unique(new int[] {1, 1}, new int[] {1, 2}, new int[] {3, 2}, new int[] {3,
                4})));
        check.due("0", Gates.inRepair(unique(new int[] {1, 1}, new int[] {1, 2}, new int[] {3, 1})));

        document.says("- `id`: the id of the row");
        QualityGate gate = spider();
        gate.removeRow(4);
        check.due("1 2 3", Gates.inRepair(gate));
        gate.removeRow(5);
        check.due("0 6", Gates.inRepair(gate));
        check.due(false, gate.isInRepair(1));
        check.due(true, gate.isInRepair(6));

        document.says("Returns whether it belongs to it.");
        gate.setValue(1, 0, 50);
        check.due("2 3", Gates.inRepair(gate));
        gate.addRequired(3, false);
        gate.setValue(1, 3, M);
        check.due("1 2 3", Gates.inRepair(gate));
        gate.setValue(6, 3, M);
        check.due("0 1 6", Gates.inRepair(gate));
        noSuchRow();
    }

    private void noSuchRow() {
        document.says("Throws `NoSuchElementException` if there is no such row");
        QualityGate gate = spider();
        gate.removeRow(4);
        gate.stage(1, 1, 1, 1, 1);
        for (int id : new int[] {-1, 4, 7, 8, 12, Integer.MIN_VALUE, Integer.MAX_VALUE}) {
            check.dueThrow(NoSuchElementException.class, () -> gate.isInRepair(id));
            check.dueThrow(NoSuchElementException.class, () -> new QualityGate().isInRepair(id));
        }
        check.dueThrow(NoSuchElementException.class, () -> new QualityGate().isInRepair(0));
        gate.repair();
        check.dueThrow(NoSuchElementException.class, () -> gate.isInRepair(1));
        check.due(false, gate.isInRepair(0));
    }

    private void repair() {
        document.section("promise 29");
        document.says("Removes all rows of the best repair from the table.");
        QualityGate gate = spider();
        gate.stage(1, 1, 1, 1, 1);
        gate.repair();
        check.due("0 4 5 6", Gates.ids(gate));
        check.due("1 2 3 0 0", Gates.values(gate, 0));
        check.due("14 24 25 0 0", Gates.values(gate, 6));
        check.dueThrow(NoSuchElementException.class, () -> gate.valueAt(2, 0));
        check.due(0, gate.fewestRemovals());
        check.due(1, gate.staged());
        check.due(0, gate.violations(0) + gate.violations(1) + gate.violations(2));
        check.due(5, gate.commit());
        check.due("0 4 5 6 7", Gates.ids(gate));

        document.says("Returns the number of rows that are removed.");
        check.due(1, gate.repair());
        check.due("0 4 5 6", Gates.ids(gate));
        check.due(0, gate.repair());
        check.due(0, new QualityGate().repair());
        check.due(0, Gates.full().repair());
        QualityGate full = Gates.full();
        full.addUnique(1, true);
        check.due(11, full.repair());
        check.due("0", Gates.ids(full));
        full.addRange(0, 1, 2, false);
        check.due(1, full.repair());
        check.due(0, full.rowCount());
        check.due(0, full.repair());
    }
}
