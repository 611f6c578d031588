import java.util.NoSuchElementException;

/** Promises 26 to 29: the best repair. */
final class RepairTest {
    private static final int M = Gates.M;
    private final Check check;

    RepairTest(Check check) {
        this.check = check;
    }

    void run() {
        fewest();
        allRowsBad();
        keepsTheSmallestIds();
        firstDifferenceDecides();
        isInRepairWrong();
        repair();
        repairCountsAllRulesInForce();
    }

    private void dueFewest(int want, QualityGate gate) {
        check.due(want, gate.fewestRemovals());
        check.due(want, gate.fewestRemovalsByTrying());
    }

    private void fewest() {
        check.test("promises 26 and 27: fewestRemovals");
        dueFewest(0, new QualityGate());
        QualityGate gate = Gates.withColumn(1, 1, 1, 2, 2, 3);
        dueFewest(0, gate);
        gate.addUnique(0, false);
        dueFewest(3, gate);
        gate.addRange(0, 2, 99, false);
        dueFewest(4, gate);
        gate.stage(3, 0, 0, 0, 0);
        dueFewest(4, gate);
        gate.commit();
        dueFewest(5, gate);
    }

    private void allRowsBad() {
        check.test("promises 26 to 28: a table in which all rows are bad");
        QualityGate gate = Gates.withColumn(M, M, M, M, M, M, M, M, M, M, M, M);
        gate.addRequired(0, false);
        dueFewest(12, gate);
        check.due("0 1 2 3 4 5 6 7 8 9 10 11", Gates.inRepair(gate));
        gate.setValue(11, 0, 1);
        dueFewest(11, gate);
        check.due(false, gate.isInRepair(11));
    }

    private void keepsTheSmallestIds() {
        check.test("promise 28: of two rows that conflict, the one with the smaller id stays");
        QualityGate gate = Gates.withColumn(1, 1);
        gate.addUnique(0, false);
        check.due("1", Gates.inRepair(gate));
        gate.addRequired(1, false);
        gate.setValue(0, 1, M);
        check.due("0", Gates.inRepair(gate));
        QualityGate star = Gates.with(Gates.row(1, 1, 0, 0, 0), Gates.row(1, 2, 0, 0, 0), Gates.row(2, 1, 0, 0, 0));
        star.addUnique(0, false);
        star.addUnique(1, false);
        dueFewest(1, star);
        check.due("0", Gates.inRepair(star));
    }

    private void firstDifferenceDecides() {
        check.test("promise 28: of repairs with as many rows, the first");
        // the rows 0 to 3 are a ring: 0 and 1, 1 and 2, 2 and 3, 3 and 0 conflict
        QualityGate ring = Gates.with(Gates.row(1, 4, 0, 0, 0), Gates.row(1, 2, 0, 0, 0), Gates.row(3, 2, 0, 0, 0),
                Gates.row(3, 4, 0, 0, 0));
        ring.addUnique(0, false);
        ring.addUnique(1, false);
        dueFewest(2, ring);
        check.due("1 3", Gates.inRepair(ring));
        // a chain of four, 2 0 3 1: of its repairs with two rows, the one without row 0 comes first
        QualityGate chain = Gates.with(Gates.row(1, 5, 0, 0, 0), Gates.row(2, 6, 0, 0, 0), Gates.row(1, 7, 0, 0, 0),
                Gates.row(2, 5, 0, 0, 0));
        chain.addUnique(0, false);
        chain.addUnique(1, false);
        dueFewest(2, chain);
        check.due("2 3", Gates.inRepair(chain));
        chain.setValue(3, 0, M);
        check.due(1, chain.fewestRemovalsByTrying());
        check.due("0", Gates.inRepair(chain));
    }

    private void isInRepairWrong() {
        check.test("promise 28: isInRepair with wrong inputs");
        QualityGate gate = Gates.withColumn(1, 1, 1);
        gate.addUnique(0, false);
        gate.removeRow(0);
        check.dueThrow(NoSuchElementException.class, () -> gate.isInRepair(0));
        check.dueThrow(NoSuchElementException.class, () -> gate.isInRepair(3));
        check.dueThrow(NoSuchElementException.class, () -> gate.isInRepair(-1));
        check.due(false, gate.isInRepair(1));
        check.due(true, gate.isInRepair(2));
    }

    private void repair() {
        check.test("promise 29: repair");
        QualityGate gate = Gates.withColumn(1, 2, 1, 3, 2, 1, M);
        check.due(0, gate.repair());
        gate.addUnique(0, true);
        gate.addRequired(0, false);
        check.due(4, gate.repair());
        check.due("0 1 3", Gates.ids(gate));
        check.due("3 0 0 0 0", Gates.values(gate, 3));
        dueFewest(0, gate);
        check.due(0, gate.repair());
        gate.stage(9, 0, 0, 0, 0);
        gate.commit();
        check.due("0 1 3 7", Gates.ids(gate));
        gate.setValue(0, 0, M);
        check.due(1, gate.repair());
        check.due("1 3 7", Gates.ids(gate));
    }

    private void repairCountsAllRulesInForce() {
        check.test("promise 29: strict and other rules count, dropped ones do not");
        QualityGate gate = Gates.with(Gates.row(1, 5, 0, 0, 0), Gates.row(1, 6, 0, 0, 0), Gates.row(2, 9, 0, 0, 0));
        gate.addDependency(1, 1, true);
        gate.addRange(1, 0, 8, true);
        gate.addUnique(2, false);
        gate.dropRule(2);
        dueFewest(2, gate);
        gate.dropRule(0);
        check.due(1, gate.repair());
        check.due("0 1", Gates.ids(gate));
    }
}
