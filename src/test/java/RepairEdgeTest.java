import java.util.NoSuchElementException;

/** Promises 26 to 29 at their bounds: the best repair. */
final class RepairEdgeTest {
    private static final int M = Gates.M;
    private final Check check;

    RepairEdgeTest(Check check) {
        this.check = check;
    }

    void run() {
        // the same tables are asked in the first way by the name of promise 26, in the second by that of promise 27
        for (int promise = 26; promise <= 27; promise++) {
            fewest(promise);
        }
        isInRepair();
        repair();
    }

    private void isInRepair() {
        inRepairFirstToLastRow();
        inRepairOfEmptyTable();
        inRepairRemovedAndStagedRow();
        inRepairNoRowAndAllRows();
        smallerIdStays();
        badRowGoes();
        firstOfSeveralRepairs();
        fewerRowsComeFirst();
        idsAndNotPositions();
    }

    private void repair() {
        repairOfEmptyTable();
        repairOfConsistentTable();
        repairOfAllRows();
        repairTwice();
        repairLeavesTheRest();
        repairIsTheBestOne();
    }

    // ---- promises 26 and 27

    private void dueFewest(int promise, int want, QualityGate gate) {
        check.due(want, promise == 26 ? gate.fewestRemovals() : gate.fewestRemovalsByTrying());
    }

    private void fewest(int promise) {
        String start = "promise " + promise + ": ";
        check.test(start + "no row of an empty table, with rules and staged rows too");
        dueFewest(promise, 0, new QualityGate());
        QualityGate empty = new QualityGate();
        empty.addRequired(0, false);
        Gates.stageColumn(empty, M, M);
        dueFewest(promise, 0, empty);
        check.test(start + "no row of a full table without rules");
        dueFewest(promise, 0, Gates.full());
        check.test(start + "no row of a full table that keeps ten rules");
        QualityGate kept = Gates.full();
        Gates.fillRules(kept);
        dueFewest(promise, 0, kept);
        fewestOfFullTables(promise, start);
        fewestOfConflicts(promise, start);
        fewestByRules(promise, start);
    }

    private void fewestOfFullTables(int promise, String start) {
        check.test(start + "all rows of a full table that are bad");
        QualityGate bad = Gates.full();
        bad.addRange(1, 1, 1, false);
        dueFewest(promise, 12, bad);
        check.test(start + "all rows but one of a full table that are bad");
        bad.setValue(11, 1, 1);
        dueFewest(promise, 11, bad);
        check.test(start + "all rows but one of a full table that all conflict");
        QualityGate clash = Gates.full();
        clash.addUnique(1, false);
        dueFewest(promise, 11, clash);
        check.test(start + "one row of a full table");
        QualityGate one = Gates.full();
        one.setValue(11, 0, 0);
        one.addUnique(0, false);
        dueFewest(promise, 1, one);
        check.test(start + "one row alone, good and bad");
        QualityGate alone = Gates.withColumn(1);
        alone.addRequired(0, false);
        dueFewest(promise, 0, alone);
        alone.setValue(0, 0, M);
        dueFewest(promise, 1, alone);
    }

    private void fewestOfConflicts(int promise, String start) {
        check.test(start + "every second row of a chain of 12");
        dueFewest(promise, 6, chain());
        check.test(start + "the middle of a star, and not its ends");
        dueFewest(promise, 1, star());
        check.test(start + "one of each pair of rows");
        QualityGate pairs = Gates.withColumn(1, 2, 3, 4, 5, 6, 6, 5, 4, 3, 2, 1);
        pairs.addUnique(0, true);
        dueFewest(promise, 6, pairs);
        check.test(start + "a bad row that conflicts counts once, and its partner stays");
        QualityGate both = Gates.withColumn(1, 1);
        both.addUnique(0, false);
        both.addRequired(1, false);
        both.setValue(0, 1, M);
        dueFewest(promise, 1, both);
        both.setValue(1, 1, M);
        dueFewest(promise, 2, both);
    }

    private void fewestByRules(int promise, String start) {
        check.test(start + "strict rules and others count, dropped ones do not");
        QualityGate gate = Gates.withColumn(1, 1, 2);
        gate.addUnique(0, true);
        gate.addRange(0, 0, 1, false);
        dueFewest(promise, 2, gate);
        gate.dropRule(1);
        dueFewest(promise, 1, gate);
        gate.dropRule(0);
        dueFewest(promise, 0, gate);
        check.test(start + "staged rows do not count");
        QualityGate staged = Gates.withColumn(1);
        staged.addUnique(0, false);
        Gates.stageColumn(staged, 1, 1);
        dueFewest(promise, 0, staged);
        staged.commit();
        dueFewest(promise, 2, staged);
    }

    /** A full table in which each row conflicts with the next one. */
    private static QualityGate chain() {
        QualityGate gate = Gates.full();
        for (int id = 0; id < 12; id++) {
            gate.setValue(id, 0, id / 2);
            gate.setValue(id, 1, (id + 1) / 2);
        }
        gate.addUnique(0, false);
        gate.addUnique(1, false);
        return gate;
    }

    /** Row 0 conflicts with each of the rows 1 to 5, which do not conflict with each other. */
    private static QualityGate star() {
        QualityGate gate = Gates.with(Gates.row(1, 1, 1, 1, 1), Gates.row(1, 2, 2, 2, 2), Gates.row(3, 1, 3, 3, 3),
                Gates.row(4, 4, 1, 4, 4), Gates.row(5, 5, 5, 1, 5), Gates.row(6, 6, 6, 6, 1));
        for (int column = 0; column < 5; column++) {
            gate.addUnique(column, false);
        }
        return gate;
    }

    // ---- promise 28

    private void inRepairFirstToLastRow() {
        check.test("promise 28: the first to the last row of a full table, and the ids beside them");
        check.dueFromTo(0, 11, NoSuchElementException.class, Gates.full()::isInRepair);
    }

    private void inRepairOfEmptyTable() {
        check.test("promise 28: there is no row in an empty table");
        check.dueThrow(NoSuchElementException.class, () -> new QualityGate().isInRepair(0));
    }

    private void inRepairRemovedAndStagedRow() {
        check.test("promise 28: a removed row and a staged row are not there");
        QualityGate gate = Gates.withColumn(1, 1, 1);
        gate.addUnique(0, false);
        gate.removeRow(1);
        gate.stage(1, 0, 0, 0, 0);
        check.dueThrow(NoSuchElementException.class, () -> gate.isInRepair(1));
        check.dueThrow(NoSuchElementException.class, () -> gate.isInRepair(3));
    }

    private void inRepairNoRowAndAllRows() {
        check.test("promise 28: no row of a table that keeps its rules, and all rows of one that are bad");
        QualityGate gate = Gates.full();
        gate.addUnique(0, false);
        check.due("", Gates.inRepair(gate));
        gate.addRange(0, 50, 50, false);
        check.due("0 1 2 3 4 5 6 7 8 9 10 11", Gates.inRepair(gate));
    }

    private void smallerIdStays() {
        check.test("promise 28: of rows that all conflict, the one with the smallest id stays");
        QualityGate gate = Gates.full();
        gate.addUnique(1, false);
        check.due("1 2 3 4 5 6 7 8 9 10 11", Gates.inRepair(gate));
        gate.removeRow(0);
        check.due("2 3 4 5 6 7 8 9 10 11", Gates.inRepair(gate));
    }

    private void badRowGoes() {
        check.test("promise 28: a bad row belongs to the repair, though its id is the smallest one");
        QualityGate gate = Gates.withColumn(1, 1, 1);
        gate.addUnique(0, false);
        gate.addRequired(1, false);
        gate.setValue(0, 1, M);
        check.due("0 2", Gates.inRepair(gate));
    }

    private void firstOfSeveralRepairs() {
        check.test("promise 28: of several repairs, the one without the first row in which they differ");
        check.due("1 3 5 7 9 11", Gates.inRepair(chain()));
        // a ring of six: the rows 0 to 5, each with the next one, and 5 with 0; two repairs have three rows
        QualityGate ring = Gates.with(Gates.row(1, 9, 0, 0, 0), Gates.row(1, 2, 0, 0, 0), Gates.row(3, 2, 0, 0, 0),
                Gates.row(3, 4, 0, 0, 0), Gates.row(5, 4, 0, 0, 0), Gates.row(5, 9, 0, 0, 0));
        ring.addUnique(0, false);
        ring.addUnique(1, false);
        check.due("1 3 5", Gates.inRepair(ring));
        // a chain of the rows 1, 0, 2, 3: the repairs with two rows are 0 2, 0 3 and 1 2
        QualityGate four = Gates.with(Gates.row(1, 2, 0, 0, 0), Gates.row(1, 9, 0, 0, 0), Gates.row(3, 2, 0, 0, 0),
                Gates.row(3, 4, 0, 0, 0));
        four.addUnique(0, false);
        four.addUnique(1, false);
        check.due("1 2", Gates.inRepair(four));
    }

    private void fewerRowsComeFirst() {
        check.test("promise 28: fewer rows come before smaller ids that stay");
        check.due("0", Gates.inRepair(star()));
        QualityGate star = star();
        for (int id = 2; id <= 5; id++) {
            star.removeRow(id);
        }
        check.due("1", Gates.inRepair(star));
    }

    private void idsAndNotPositions() {
        check.test("promise 28: the rows of the repair by their ids");
        QualityGate gate = Gates.withColumn(9, 1, 9, 1, 9, 1);
        gate.addUnique(0, false);
        gate.removeRow(0);
        check.due("3 4 5", Gates.inRepair(gate));
        check.due(false, gate.isInRepair(1));
        check.due(false, gate.isInRepair(2));
    }

    // ---- promise 29

    private void repairOfEmptyTable() {
        check.test("promise 29: an empty table");
        QualityGate gate = new QualityGate();
        gate.addRequired(0, true);
        gate.stage(M, 0, 0, 0, 0);
        check.due(0, gate.repair());
        check.due(0, gate.rowCount());
        check.due(1, gate.staged());
    }

    private void repairOfConsistentTable() {
        check.test("promise 29: a full table that keeps its rules, and one without rules");
        QualityGate gate = Gates.full();
        check.due(0, gate.repair());
        Gates.fillRules(gate);
        check.due(0, gate.repair());
        check.due(12, gate.rowCount());
    }

    private void repairOfAllRows() {
        check.test("promise 29: all rows of a full table, whose ids are not used again");
        QualityGate gate = Gates.full();
        gate.addRange(0, 50, 60, true);
        check.due(12, gate.repair());
        check.due(0, gate.rowCount());
        Gates.add(gate, Gates.row(55, 0, 0, 0, 0));
        check.due("12", Gates.ids(gate));
    }

    private void repairTwice() {
        check.test("promise 29: a second repair removes no row");
        QualityGate gate = chain();
        check.due(6, gate.repair());
        check.due(0, gate.repair());
        check.due("0 2 4 6 8 10", Gates.ids(gate));
    }

    private void repairLeavesTheRest() {
        check.test("promise 29: the staged rows, the rules, the rejection and the profile stay");
        QualityGate gate = Gates.withColumn(1, 50, 1);
        gate.addUnique(0, true);
        gate.saveProfile();
        Gates.stageColumn(gate, 7, 1);
        check.dueThrow(UnsupportedOperationException.class, gate::commit);
        check.due(1, gate.repair());
        check.due("0 1", Gates.ids(gate));
        check.due(2, gate.staged());
        check.due(1, gate.rejectedRow());
        check.due(0, gate.rejectedOther());
        check.due(0, gate.violations(0));
        check.due(166, gate.drift(0));
    }

    private void repairIsTheBestOne() {
        check.test("promise 29: the rows that isInRepair told are removed, and the others keep their values");
        QualityGate gate = star();
        check.due("0", Gates.inRepair(gate));
        check.due(1, gate.repair());
        check.due("1 2 3 4 5", Gates.ids(gate));
        check.due("1 2 2 2 2", Gates.values(gate, 1));
        check.due("6 6 6 6 1", Gates.values(gate, 5));
    }
}
