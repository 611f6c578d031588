import java.util.NoSuchElementException;

/** Promises 15 to 25: rules, violations, conflicts and groups. */
final class RuleTest {
    private static final int M = Gates.M;
    private final Check check;

    RuleTest(Check check) {
        this.check = check;
    }

    void run() {
        addRange();
        addRangeWrong();
        addRequired();
        addOrder();
        addUnique();
        addDependency();
        atMostTenRules();
        dropRule();
        violations();
        isBad();
        conflict();
        groups();
        groupSize();
    }

    private void addRange() {
        check.test("promise 15: addRange");
        QualityGate gate = Gates.withColumn(-3, -2, 0, 5, 6, M);
        check.due(0, gate.addRange(0, -2, 5, false));
        check.due(2, gate.violations(0));
        check.due(true, gate.isBad(0));
        check.due(false, gate.isBad(1));
        check.due(false, gate.isBad(3));
        check.due(true, gate.isBad(4));
        check.due(false, gate.isBad(5));
        check.due(1, gate.addRange(0, 5, 5, false));
        check.due(4, gate.violations(1));
        check.due(2, gate.addRange(4, -99, 99, true));
        check.due(0, gate.violations(2));
    }

    private void addRangeWrong() {
        check.test("promise 15: addRange with wrong inputs, in their order");
        QualityGate gate = new QualityGate();
        check.dueThrow(IndexOutOfBoundsException.class, () -> gate.addRange(5, 2, 1, true));
        check.dueThrow(IndexOutOfBoundsException.class, () -> gate.addRange(-1, 0, 1, true));
        check.dueThrow(IllegalArgumentException.class, () -> gate.addRange(0, 2, 1, true));
        check.dueThrow(IllegalArgumentException.class, () -> gate.addRange(0, -100, 1, true));
        check.dueThrow(IllegalArgumentException.class, () -> gate.addRange(0, 0, 100, true));
        check.dueThrow(IllegalArgumentException.class, () -> gate.addRange(0, 100, 100, true));
        check.dueThrow(IllegalArgumentException.class, () -> gate.addRange(0, -100, -100, true));
        check.due(0, gate.addRange(0, 99, 99, true));
        Gates.fillRules(gate);
        check.dueThrow(IndexOutOfBoundsException.class, () -> gate.addRange(5, 0, 1, true));
        check.dueThrow(IllegalArgumentException.class, () -> gate.addRange(0, 2, 1, true));
        check.dueThrow(IllegalStateException.class, () -> gate.addRange(0, 1, 2, true));
    }

    private void addRequired() {
        check.test("promise 16: addRequired");
        QualityGate gate = Gates.withColumn(0, M, -99);
        check.due(0, gate.addRequired(0, false));
        check.due(1, gate.violations(0));
        check.due(true, gate.isBad(1));
        check.due(false, gate.isBad(0));
        check.dueThrow(IndexOutOfBoundsException.class, () -> gate.addRequired(5, true));
        check.dueThrow(IndexOutOfBoundsException.class, () -> gate.addRequired(-1, true));
        check.due(1, gate.addRequired(4, true));
        Gates.fillRules(gate);
        check.dueThrow(IndexOutOfBoundsException.class, () -> gate.addRequired(5, true));
        check.dueThrow(IllegalStateException.class, () -> gate.addRequired(0, true));
    }

    private void addOrder() {
        check.test("promise 17: addOrder");
        QualityGate gate = Gates.with(Gates.row(0, 0, 1, 0, 2), Gates.row(0, 0, 2, 0, 2), Gates.row(0, 0, 3, 0, 2),
                Gates.row(0, 0, M, 0, 2), Gates.row(0, 0, 3, 0, M), Gates.row(0, 0, M, 0, M));
        check.due(0, gate.addOrder(2, 4, false));
        check.due(1, gate.violations(0));
        check.due(true, gate.isBad(2));
        check.due(1, gate.addOrder(4, 2, false));
        check.due(1, gate.violations(1));
        check.due(true, gate.isBad(0));
        check.due(false, gate.isBad(1));
        check.due(false, gate.isBad(3));
        check.due(false, gate.isBad(4));
        check.dueThrow(IndexOutOfBoundsException.class, () -> gate.addOrder(5, 5, true));
        check.dueThrow(IndexOutOfBoundsException.class, () -> gate.addOrder(0, 5, true));
        check.dueThrow(IndexOutOfBoundsException.class, () -> gate.addOrder(-1, 0, true));
        check.dueThrow(IllegalArgumentException.class, () -> gate.addOrder(4, 4, true));
        check.due(2, gate.addOrder(0, 1, true));
        Gates.fillRules(gate);
        check.dueThrow(IndexOutOfBoundsException.class, () -> gate.addOrder(0, -1, true));
        check.dueThrow(IllegalArgumentException.class, () -> gate.addOrder(1, 1, true));
        check.dueThrow(IllegalStateException.class, () -> gate.addOrder(0, 1, true));
    }

    private void addUnique() {
        check.test("promise 18: addUnique");
        QualityGate gate = Gates.withColumn(4, M, 4, M, 5, 4);
        check.due(0, gate.addUnique(0, false));
        check.due(3, gate.violations(0));
        check.due(true, gate.conflict(0, 2));
        check.due(true, gate.conflict(5, 2));
        check.due(false, gate.conflict(1, 3));
        check.due(false, gate.conflict(0, 4));
        check.due(false, gate.isBad(0));
        check.dueThrow(IndexOutOfBoundsException.class, () -> gate.addUnique(5, true));
        check.dueThrow(IndexOutOfBoundsException.class, () -> gate.addUnique(-1, true));
        check.due(1, gate.addUnique(4, true));
        Gates.fillRules(gate);
        check.dueThrow(IndexOutOfBoundsException.class, () -> gate.addUnique(5, true));
        check.dueThrow(IllegalStateException.class, () -> gate.addUnique(0, true));
    }

    private void addDependency() {
        check.test("promise 19: addDependency");
        QualityGate gate = Gates.with(Gates.row(1, M, 3, 0, 0), Gates.row(1, M, 4, 0, 0), Gates.row(1, 2, 5, 0, 0),
                Gates.row(2, M, 3, 0, 0), Gates.row(1, M, M, 0, 0), Gates.row(1, M, M, 1, 1));
        check.due(0, gate.addDependency(3, 2, false));
        check.due(5, gate.violations(0));
        check.due(true, gate.conflict(0, 1));
        check.due(true, gate.conflict(0, 4));
        check.due(false, gate.conflict(4, 5));
        check.due(false, gate.conflict(0, 2));
        check.due(false, gate.conflict(0, 3));
        check.due(1, gate.addDependency(0, 3, false));
        check.due(5, gate.violations(1));
        check.due(2, gate.addDependency(15, 4, false));
        check.due(0, gate.violations(2));
        check.dueThrow(IndexOutOfBoundsException.class, () -> gate.addDependency(32, 5, true));
        check.dueThrow(IndexOutOfBoundsException.class, () -> gate.addDependency(0, -1, true));
        check.dueThrow(IllegalArgumentException.class, () -> gate.addDependency(32, 0, true));
        check.dueThrow(IllegalArgumentException.class, () -> gate.addDependency(-1, 0, true));
        check.dueThrow(IllegalArgumentException.class, () -> gate.addDependency(4, 2, true));
        check.dueThrow(IllegalArgumentException.class, () -> gate.addDependency(31, 4, true));
        check.due(3, gate.addDependency(30, 0, true));
        Gates.fillRules(gate);
        check.dueThrow(IndexOutOfBoundsException.class, () -> gate.addDependency(0, 5, true));
        check.dueThrow(IllegalArgumentException.class, () -> gate.addDependency(1, 0, true));
        check.dueThrow(IllegalStateException.class, () -> gate.addDependency(1, 1, true));
    }

    private void atMostTenRules() {
        check.test("promises 15 to 19: at most 10 rules, the dropped ones counted");
        QualityGate gate = new QualityGate();
        check.due(0, gate.addRequired(0, false));
        check.due(1, gate.addUnique(0, false));
        check.due(2, gate.addRange(0, 0, 0, false));
        check.due(3, gate.addOrder(0, 1, false));
        check.due(4, gate.addDependency(1, 1, false));
        gate.dropRule(4);
        check.due(5, gate.addRequired(0, false));
        gate.dropRule(0);
        for (int rule = 6; rule < 10; rule++) {
            check.due(rule, gate.addUnique(rule - 5, false));
        }
        check.dueThrow(IllegalStateException.class, () -> gate.addRequired(0, false));
        gate.dropRule(9);
        check.dueThrow(IllegalStateException.class, () -> gate.addRequired(0, false));
    }

    private void dropRule() {
        check.test("promise 20: dropRule");
        QualityGate gate = Gates.withColumn(M, 4, 4);
        gate.addRequired(0, false);
        gate.addUnique(0, false);
        gate.addRequired(1, false);
        check.dueThrow(IndexOutOfBoundsException.class, () -> gate.dropRule(3));
        check.dueThrow(IndexOutOfBoundsException.class, () -> gate.dropRule(-1));
        check.due(2, gate.dropRule(0));
        check.dueThrow(IllegalStateException.class, () -> gate.dropRule(0));
        check.due(false, gate.isBad(0));
        check.due(1, gate.violations(1));
        check.due(true, gate.conflict(1, 2));
        check.due(1, gate.dropRule(1));
        check.due(false, gate.conflict(1, 2));
        check.due(3, gate.addRequired(0, false));
        check.due(1, gate.dropRule(2));
        check.due(0, gate.dropRule(3));
        QualityGate two = new QualityGate();
        two.addRequired(0, false);
        two.addUnique(0, false);
        check.due(1, two.dropRule(1));
        check.due(0, two.dropRule(0));
    }

    private void violations() {
        check.test("promise 21: violations");
        QualityGate gate = Gates.withColumn(3, 3, 3, 3, M);
        gate.addUnique(0, false);
        gate.addRequired(0, true);
        check.due(6, gate.violations(0));
        check.due(1, gate.violations(1));
        gate.stage(3, 0, 0, 0, 0);
        check.due(6, gate.violations(0));
        gate.removeRow(2);
        check.due(3, gate.violations(0));
        check.dueThrow(IndexOutOfBoundsException.class, () -> gate.violations(2));
        check.dueThrow(IndexOutOfBoundsException.class, () -> gate.violations(-1));
        gate.dropRule(1);
        check.dueThrow(IllegalStateException.class, () -> gate.violations(1));
        check.due(3, gate.violations(0));
    }

    private void isBad() {
        check.test("promise 22: isBad");
        QualityGate gate = Gates.with(Gates.row(1, 0, 0, 0, 0), Gates.row(9, 0, 0, 0, 0), Gates.row(1, 0, M, 0, 0),
                Gates.row(1, 0, 0, 0, 0));
        check.due(false, gate.isBad(1));
        gate.addRange(0, 0, 5, true);
        gate.addRequired(2, false);
        gate.addUnique(0, false);
        check.due(false, gate.isBad(0));
        check.due(true, gate.isBad(1));
        check.due(true, gate.isBad(2));
        check.dueThrow(NoSuchElementException.class, () -> gate.isBad(4));
        check.dueThrow(NoSuchElementException.class, () -> gate.isBad(-1));
        gate.removeRow(1);
        check.dueThrow(NoSuchElementException.class, () -> gate.isBad(1));
        check.due(true, gate.isBad(2));
    }

    private void conflict() {
        check.test("promise 23: conflict");
        QualityGate gate = Gates.with(Gates.row(1, 1, 0, 0, 0), Gates.row(1, 2, 0, 0, 0), Gates.row(2, 2, 5, 0, 0));
        check.due(false, gate.conflict(0, 1));
        gate.addUnique(0, false);
        gate.addDependency(2, 2, true);
        check.due(true, gate.conflict(0, 1));
        check.due(true, gate.conflict(1, 0));
        check.due(true, gate.conflict(2, 1));
        check.due(false, gate.conflict(0, 2));
        check.dueThrow(IllegalArgumentException.class, () -> gate.conflict(1, 1));
        check.dueThrow(NoSuchElementException.class, () -> gate.conflict(3, 3));
        check.dueThrow(NoSuchElementException.class, () -> gate.conflict(3, 0));
        check.dueThrow(NoSuchElementException.class, () -> gate.conflict(0, -1));
    }

    private void groups() {
        check.test("promise 24: groups");
        QualityGate gate = chain();
        check.due(3, gate.groups());
        gate.setValue(3, 0, 50);
        check.due(4, gate.groups());
        gate.removeRow(1);
        check.due(3, gate.groups());
        check.due(0, new QualityGate().groups());
        check.due(4, Gates.withColumn(1, 1, 1, 1).groups());
    }

    private void groupSize() {
        check.test("promise 25: groupSize");
        QualityGate gate = chain();
        for (int id : new int[] {0, 2, 3, 5}) {
            check.due(4, gate.groupSize(id));
        }
        check.due(1, gate.groupSize(1));
        check.due(1, gate.groupSize(4));
        gate.setValue(3, 0, 50);
        check.due(2, gate.groupSize(0));
        check.due(2, gate.groupSize(5));
        check.due(2, gate.groupSize(3));
        check.dueThrow(NoSuchElementException.class, () -> gate.groupSize(6));
        check.dueThrow(NoSuchElementException.class, () -> gate.groupSize(-1));
        QualityGate all = Gates.withColumn(1, 1, 1, 1, 1, 1, 1, 1, 1, 1, 1, 1);
        all.addUnique(0, false);
        check.due(12, all.groupSize(11));
        check.due(1, all.groups());
    }

    /** Rows 5, 0, 3 and 2 are a chain, in this order, by unique values in column 0 and column 1 in turn. */
    private static QualityGate chain() {
        QualityGate gate = Gates.with(Gates.row(1, 7, 0, 0, 0), Gates.row(8, 1, 0, 0, 0), Gates.row(3, 9, 0, 0, 0),
                Gates.row(1, 9, 0, 0, 0), Gates.row(M, M, 0, 0, 0), Gates.row(4, 7, 0, 0, 0));
        gate.addUnique(0, false);
        gate.addUnique(1, true);
        return gate;
    }
}
