import java.util.NoSuchElementException;

/** Promises 21 to 25 at their bounds: violations, bad rows, conflicts and groups. */
final class ConflictEdgeTest {
    private static final int M = Gates.M;
    private final Check check;

    ConflictEdgeTest(Check check) {
        this.check = check;
    }

    void run() {
        violations();
        isBad();
        conflict();
        groups();
        groupSize();
    }

    private void violations() {
        violationsWithoutRules();
        violationsOfFirstToLastRule();
        violationsOfDroppedRule();
        violationsInEmptyTable();
        violationsInFullTable();
        violationsByStagedRows();
    }

    private void isBad() {
        badFirstToLastRow();
        badInEmptyTable();
        badRemovedAndStagedRow();
        badWithoutRules();
        badByOneRuleOfTen();
        badNotByPairRules();
    }

    private void conflict() {
        conflictFirstToLastRow();
        conflictInEmptyTable();
        conflictOfSameIds();
        conflictOfSameIdsThatAreNotThere();
        conflictOfRemovedAndStagedRow();
        conflictInBothOrders();
        conflictNotByRowRules();
    }

    private void groups() {
        groupsOfEmptyTable();
        groupsWithoutConflicts();
        groupsWithAllConflicts();
        groupsOfChain();
        groupsOfBadRows();
        groupsNotByStagedRows();
    }

    private void groupSize() {
        sizeFirstToLastRow();
        sizeInEmptyTable();
        sizeOfOne();
        sizeOfTwelve();
        sizeAlongChain();
        sizeAfterRemoval();
    }

    // ---- promise 21

    private void violationsWithoutRules() {
        check.test("promise 21: no rule was added");
        for (int rule : new int[] {-1, 0, 10, Integer.MIN_VALUE, Integer.MAX_VALUE}) {
            check.dueThrow(IndexOutOfBoundsException.class, () -> Gates.full().violations(rule));
        }
    }

    private void violationsOfFirstToLastRule() {
        check.test("promise 21: the first to the last of ten rules, and the numbers beside them");
        QualityGate gate = Gates.full();
        Gates.fillRules(gate);
        check.dueFromTo(0, 9, IndexOutOfBoundsException.class, gate::violations);
        QualityGate one = Gates.full();
        one.addUnique(1, false);
        check.dueFromTo(0, 0, IndexOutOfBoundsException.class, one::violations);
    }

    private void violationsOfDroppedRule() {
        check.test("promise 21: the rule is dropped");
        QualityGate gate = Gates.full();
        Gates.fillRules(gate);
        gate.dropRule(9);
        gate.dropRule(0);
        check.dueThrow(IllegalStateException.class, () -> gate.violations(9));
        check.dueThrow(IllegalStateException.class, () -> gate.violations(0));
        check.due(0, gate.violations(1));
    }

    private static QualityGate withAllKinds(QualityGate gate) {
        gate.addRange(1, 1, 9, false);
        gate.addRequired(0, true);
        gate.addOrder(2, 3, false);
        gate.addUnique(1, true);
        gate.addDependency(4, 0, false);
        return gate;
    }

    private void violationsInEmptyTable() {
        check.test("promise 21: no rule is violated in an empty table or by one row that keeps it");
        QualityGate gate = withAllKinds(new QualityGate());
        Gates.stageColumn(gate, M, M);
        for (int rule = 0; rule < 5; rule++) {
            check.due(0, gate.violations(rule));
        }
        QualityGate one = withAllKinds(Gates.with(Gates.row(0, 1, 0, 0, 0)));
        for (int rule = 0; rule < 5; rule++) {
            check.due(0, one.violations(rule));
        }
    }

    private void violationsInFullTable() {
        check.test("promise 21: all rows or all pairs of a full table");
        QualityGate gate = withAllKinds(Gates.full());
        check.due(12, gate.violations(0));
        check.due(0, gate.violations(1));
        check.due(0, gate.violations(2));
        check.due(66, gate.violations(3));
        check.due(66, gate.violations(4));
        for (int id = 0; id < 12; id++) {
            gate.setValue(id, 0, M);
            gate.setValue(id, 2, 1);
        }
        check.due(12, gate.violations(1));
        check.due(12, gate.violations(2));
        check.due(0, gate.violations(4));
    }

    private void violationsByStagedRows() {
        check.test("promise 21: staged rows do not count");
        QualityGate gate = withAllKinds(Gates.with(Gates.row(1, 1, 0, 0, 0)));
        gate.stage(M, 1, 5, 0, 0);
        for (int rule = 0; rule < 5; rule++) {
            check.due(0, gate.violations(rule));
        }
    }

    // ---- promise 22

    private void badFirstToLastRow() {
        check.test("promise 22: the first to the last row of a full table, and the ids beside them");
        QualityGate gate = Gates.full();
        gate.addRange(0, 1, 10, false);
        check.dueFromTo(0, 11, NoSuchElementException.class, gate::isBad);
        for (int id = 0; id < 12; id++) {
            check.due(id == 0 || id == 11, gate.isBad(id));
        }
    }

    private void badInEmptyTable() {
        check.test("promise 22: there is no row in an empty table");
        check.dueThrow(NoSuchElementException.class, () -> new QualityGate().isBad(0));
    }

    private void badRemovedAndStagedRow() {
        check.test("promise 22: a removed row and a staged row are not there");
        QualityGate gate = Gates.withColumn(M, M);
        gate.addRequired(0, false);
        gate.removeRow(1);
        gate.stage(M, 0, 0, 0, 0);
        check.due(true, gate.isBad(0));
        check.dueThrow(NoSuchElementException.class, () -> gate.isBad(1));
        check.dueThrow(NoSuchElementException.class, () -> gate.isBad(2));
    }

    private void badWithoutRules() {
        check.test("promise 22: no row is bad without rules");
        check.due(false, Gates.with(Gates.row(M, M, M, M, M)).isBad(0));
    }

    private void badByOneRuleOfTen() {
        check.test("promise 22: a row is bad if it breaks the last one of ten rules, until that is dropped");
        QualityGate gate = Gates.withColumn(5);
        for (int rule = 0; rule < 9; rule++) {
            gate.addRange(0, -rule, 5, false);
        }
        check.due(false, gate.isBad(0));
        gate.addRange(0, 6, 6, false);
        check.due(true, gate.isBad(0));
        gate.dropRule(9);
        check.due(false, gate.isBad(0));
    }

    private void badNotByPairRules() {
        check.test("promise 22: a row is not bad by pair rules");
        QualityGate gate = Gates.withColumn(5, 5);
        gate.addUnique(0, true);
        gate.setValue(1, 1, 1);
        gate.addDependency(0, 1, true);
        check.due(true, gate.conflict(0, 1));
        check.due(false, gate.isBad(0));
        check.due(false, gate.isBad(1));
    }

    // ---- promise 23

    private void conflictFirstToLastRow() {
        check.test("promise 23: the first to the last row of a full table, and the ids beside them, on both sides");
        QualityGate gate = Gates.full();
        gate.removeRow(11);
        Gates.add(gate, Gates.row(0, 0, 0, 0, 0));
        gate.removeRow(0);
        check.dueFromTo(1, 10, NoSuchElementException.class, id -> gate.conflict(id, 12));
        check.dueFromTo(1, 10, NoSuchElementException.class, id -> gate.conflict(12, id));
    }

    private void conflictInEmptyTable() {
        check.test("promise 23: there is no row in an empty table");
        check.dueThrow(NoSuchElementException.class, () -> new QualityGate().conflict(0, 1));
        check.dueThrow(NoSuchElementException.class, () -> Gates.withColumn(1).conflict(0, 1));
        check.dueThrow(NoSuchElementException.class, () -> Gates.withColumn(1).conflict(1, 0));
    }

    private void conflictOfSameIds() {
        check.test("promise 23: both ids are the same");
        QualityGate gate = Gates.full();
        gate.addUnique(1, false);
        check.dueThrow(IllegalArgumentException.class, () -> gate.conflict(0, 0));
        check.dueThrow(IllegalArgumentException.class, () -> gate.conflict(11, 11));
    }

    private void conflictOfSameIdsThatAreNotThere() {
        check.test("promise 23: no such row comes before the same ids");
        QualityGate gate = Gates.full();
        gate.removeRow(4);
        for (int id : new int[] {-1, 4, 12}) {
            check.dueThrow(NoSuchElementException.class, () -> gate.conflict(id, id));
        }
    }

    private void conflictOfRemovedAndStagedRow() {
        check.test("promise 23: a removed row and a staged row are not there");
        QualityGate gate = Gates.withColumn(1, 1);
        gate.addUnique(0, false);
        gate.removeRow(1);
        gate.stage(1, 0, 0, 0, 0);
        check.dueThrow(NoSuchElementException.class, () -> gate.conflict(0, 1));
        check.dueThrow(NoSuchElementException.class, () -> gate.conflict(2, 0));
        gate.commit();
        check.due(true, gate.conflict(2, 0));
    }

    private void conflictInBothOrders() {
        check.test("promise 23: the order of the two rows does not matter, and one pair rule is enough");
        QualityGate gate = Gates.with(Gates.row(1, 5, M, 0, 0), Gates.row(2, 5, M, 1, 0), Gates.row(3, 6, M, 1, 0));
        gate.addUnique(0, false);
        gate.addUnique(2, false);
        gate.addDependency(2, 3, false);
        check.due(true, gate.conflict(0, 1));
        check.due(true, gate.conflict(1, 0));
        check.due(false, gate.conflict(0, 2));
        check.due(false, gate.conflict(2, 1));
        gate.dropRule(2);
        check.due(false, gate.conflict(1, 0));
    }

    private void conflictNotByRowRules() {
        check.test("promise 23: rows do not conflict by row rules or without rules");
        QualityGate gate = Gates.withColumn(M, M);
        check.due(false, gate.conflict(0, 1));
        gate.addRequired(0, true);
        gate.addRange(1, 1, 2, true);
        check.due(false, gate.conflict(0, 1));
    }

    // ---- promise 24

    private void groupsOfEmptyTable() {
        check.test("promise 24: an empty table has no group");
        QualityGate gate = withAllKinds(new QualityGate());
        gate.stage(1, 1, 1, 1, 1);
        check.due(0, gate.groups());
    }

    private void groupsWithoutConflicts() {
        check.test("promise 24: a row without conflicts is a group of its own");
        check.due(1, Gates.withColumn(1).groups());
        check.due(12, Gates.full().groups());
        QualityGate gate = Gates.full();
        gate.addUnique(0, true);
        check.due(12, gate.groups());
    }

    private void groupsWithAllConflicts() {
        check.test("promise 24: a full table of rows that all conflict is one group");
        QualityGate gate = Gates.full();
        gate.addUnique(4, false);
        check.due(1, gate.groups());
        gate.dropRule(0);
        check.due(12, gate.groups());
    }

    /** A full table in which each row conflicts with the next one of this order alone. */
    private static QualityGate chain(int... order) {
        QualityGate gate = Gates.full();
        for (int place = 0; place < 12; place++) {
            gate.setValue(order[place], 0, place / 2);
            gate.setValue(order[place], 1, (place + 1) / 2);
        }
        gate.addUnique(0, false);
        gate.addUnique(1, false);
        return gate;
    }

    private static final int[] FORTH = {0, 1, 2, 3, 4, 5, 6, 7, 8, 9, 10, 11};
    private static final int[] BACK = {11, 10, 9, 8, 7, 6, 5, 4, 3, 2, 1, 0};
    private static final int[] ZIGZAG = {5, 6, 4, 7, 3, 8, 2, 9, 1, 10, 0, 11};

    private void groupsOfChain() {
        check.test("promise 24: rows that are reached over others, over a chain of 12 rows");
        for (int[] order : new int[][] {FORTH, BACK, ZIGZAG}) {
            QualityGate gate = chain(order);
            check.due(1, gate.groups());
            gate.removeRow(order[6]);
            check.due(2, gate.groups());
            gate.removeRow(order[3]);
            check.due(3, gate.groups());
        }
    }

    private void groupsOfBadRows() {
        check.test("promise 24: bad rows belong to groups as others do");
        QualityGate gate = chain(FORTH);
        gate.addRange(0, 50, 60, false);
        check.due(true, gate.isBad(3));
        check.due(1, gate.groups());
    }

    private void groupsNotByStagedRows() {
        check.test("promise 24: staged rows do not count");
        QualityGate gate = Gates.withColumn(1, 2);
        gate.addUnique(0, false);
        gate.addUnique(1, false);
        gate.setValue(0, 1, 9);
        gate.stage(1, 0, 0, 0, 0);
        check.due(2, gate.groups());
        gate.commit();
        check.due(1, gate.groups());
    }

    // ---- promise 25

    private void sizeFirstToLastRow() {
        check.test("promise 25: the first to the last row of a full table, and the ids beside them");
        check.dueFromTo(0, 11, NoSuchElementException.class, Gates.full()::groupSize);
    }

    private void sizeInEmptyTable() {
        check.test("promise 25: there is no row in an empty table");
        check.dueThrow(NoSuchElementException.class, () -> new QualityGate().groupSize(0));
    }

    private void sizeOfOne() {
        check.test("promise 25: a row without conflicts is a group of one");
        for (int id : FORTH) {
            check.due(1, Gates.full().groupSize(id));
        }
    }

    private void sizeOfTwelve() {
        check.test("promise 25: a full table of rows that all conflict is a group of 12");
        QualityGate gate = Gates.full();
        gate.addUnique(4, false);
        for (int id : FORTH) {
            check.due(12, gate.groupSize(id));
        }
    }

    private void sizeAlongChain() {
        check.test("promise 25: a chain is one group from each of its rows");
        for (int[] order : new int[][] {FORTH, BACK, ZIGZAG}) {
            QualityGate gate = chain(order);
            for (int id : order) {
                check.due(12, gate.groupSize(id));
            }
            gate.removeRow(order[4]);
            check.due(4, gate.groupSize(order[0]));
            check.due(4, gate.groupSize(order[3]));
            check.due(7, gate.groupSize(order[5]));
            check.due(7, gate.groupSize(order[11]));
        }
    }

    private void sizeAfterRemoval() {
        check.test("promise 25: a removed row and a staged row are not there");
        QualityGate gate = Gates.withColumn(1, 1, 1);
        gate.addUnique(0, false);
        gate.removeRow(1);
        gate.stage(1, 0, 0, 0, 0);
        check.dueThrow(NoSuchElementException.class, () -> gate.groupSize(1));
        check.dueThrow(NoSuchElementException.class, () -> gate.groupSize(3));
        check.due(2, gate.groupSize(2));
    }
}
