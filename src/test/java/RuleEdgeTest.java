/** Promises 15 to 20 at their bounds: the rules that are added and dropped. */
final class RuleEdgeTest {
    private static final int M = Gates.M;
    private final Check check;

    RuleEdgeTest(Check check) {
        this.check = check;
    }

    void run() {
        tenthRuleAndEleventh();
        addRange();
        addRequired();
        addOrder();
        addUnique();
        addDependency();
        dropRule();
    }

    private void addRange() {
        rangeColumns();
        lowerBounds();
        upperBounds();
        upperBoundFromLower();
        missingIsNoBound();
        rangeExceptionsInOrder();
        valuesAtTheBounds();
        widestRange();
    }

    private void addRequired() {
        requiredColumns();
        requiredExceptionsInOrder();
        requiredValues();
    }

    private void addOrder() {
        orderFirstColumns();
        orderSecondColumns();
        sameColumns();
        orderExceptionsInOrder();
        equalValuesInOrder();
        missingValuesInOrder();
    }

    private void addUnique() {
        uniqueColumns();
        uniqueExceptionsInOrder();
        uniqueValues();
    }

    private void addDependency() {
        dependencyColumns();
        dependencySets();
        columnInSet();
        wholeSet();
        dependencyExceptionsInOrder();
        dependencyWithMissing();
        dependencyOfTheEmptySet();
    }

    private void dropRule() {
        dropFromNoRules();
        dropFirstToLast();
        dropTwice();
        dropAllOfTen();
        droppedRuleKeepsItsNumber();
        droppedRuleDoesNotCount();
    }

    // ---- promises 15 to 19: at most ten rules

    private static int added(QualityGate gate, int promise) {
        switch (promise) {
            case 15:
                return gate.addRange(0, 0, 0, false);
            case 16:
                return gate.addRequired(0, false);
            case 17:
                return gate.addOrder(0, 1, false);
            case 18:
                return gate.addUnique(0, false);
            default:
                return gate.addDependency(0, 0, false);
        }
    }

    private void tenthRuleAndEleventh() {
        for (int promise = 15; promise <= 19; promise++) {
            check.test("promise " + promise + ": the first rule to the tenth, and no eleventh");
            int kind = promise;
            QualityGate gate = new QualityGate();
            for (int rule = 0; rule < 10; rule++) {
                check.due(rule, added(gate, kind));
            }
            check.dueThrow(IllegalStateException.class, () -> added(gate, kind));
            check.dueThrow(IndexOutOfBoundsException.class, () -> gate.violations(10));
            check.test("promise " + promise + ": a dropped rule leaves no room for an eleventh");
            check.due(9, gate.dropRule(4));
            check.dueThrow(IllegalStateException.class, () -> added(gate, kind));
            check.due(8, gate.dropRule(9));
            check.dueThrow(IllegalStateException.class, () -> added(gate, kind));
        }
    }

    // ---- promise 15

    private void rangeColumns() {
        check.test("promise 15: the first to the last column, and those beside them");
        QualityGate gate = new QualityGate();
        check.dueFromTo(0, 4, IndexOutOfBoundsException.class, column -> gate.addRange(column, 0, 0, false));
        check.due(5, gate.addRequired(0, false));
    }

    private void lowerBounds() {
        check.test("promise 15: the lower bound from -99 to 99");
        check.dueFromTo(-99, 99, IllegalArgumentException.class,
                low -> new QualityGate().addRange(0, low, 99, true));
        check.dueThrow(IllegalArgumentException.class, () -> new QualityGate().addRange(0, -100, -99, true));
    }

    private void upperBounds() {
        check.test("promise 15: the upper bound from -99 to 99");
        check.dueFromTo(-99, 99, IllegalArgumentException.class,
                high -> new QualityGate().addRange(0, -99, high, true));
        check.dueThrow(IllegalArgumentException.class, () -> new QualityGate().addRange(0, 99, 100, true));
    }

    private void upperBoundFromLower() {
        check.test("promise 15: the upper bound is not less than the lower bound");
        for (int low = -99; low <= 99; low += 18) {
            int bound = low;
            check.due(0, new QualityGate().addRange(0, bound, bound, true));
            check.dueThrow(IllegalArgumentException.class, () -> new QualityGate().addRange(0, bound, bound - 1, true));
        }
        check.dueThrow(IllegalArgumentException.class, () -> new QualityGate().addRange(0, 99, -99, true));
    }

    private void missingIsNoBound() {
        check.test("promise 15: MISSING is no bound");
        check.dueThrow(IllegalArgumentException.class, () -> new QualityGate().addRange(0, 0, M, true));
        check.dueThrow(IllegalArgumentException.class, () -> new QualityGate().addRange(0, M, M, true));
    }

    private void rangeExceptionsInOrder() {
        check.test("promise 15: no such column, then a bound out of range, then ten rules");
        QualityGate gate = new QualityGate();
        check.dueThrow(IndexOutOfBoundsException.class, () -> gate.addRange(5, -100, 0, true));
        check.dueThrow(IndexOutOfBoundsException.class, () -> gate.addRange(-1, 1, 0, true));
        Gates.fillRules(gate);
        check.dueThrow(IndexOutOfBoundsException.class, () -> gate.addRange(5, 1, 0, true));
        check.dueThrow(IndexOutOfBoundsException.class, () -> gate.addRange(-1, 0, 0, true));
        check.dueThrow(IllegalArgumentException.class, () -> gate.addRange(0, 0, 100, true));
        check.dueThrow(IllegalArgumentException.class, () -> gate.addRange(0, 1, 0, true));
        check.dueThrow(IllegalStateException.class, () -> gate.addRange(0, 0, 0, true));
    }

    private void valuesAtTheBounds() {
        check.test("promise 15: values at the bounds do not break the rule, those beside them do, MISSING does not");
        QualityGate gate = Gates.with(Gates.row(0, 0, 0, 0, 9), Gates.row(0, 0, 0, 0, 10), Gates.row(0, 0, 0, 0, 20),
                Gates.row(0, 0, 0, 0, 21), Gates.row(0, 0, 0, 0, M));
        gate.addRange(4, 10, 20, false);
        check.due("true false false true false", bad(gate));
        check.due(2, gate.violations(0));
    }

    private static String bad(QualityGate gate) {
        StringBuilder text = new StringBuilder();
        for (int position = 0; position < gate.rowCount(); position++) {
            text.append(position == 0 ? "" : " ").append(gate.isBad(gate.rowAt(position)));
        }
        return text.toString();
    }

    private void widestRange() {
        check.test("promise 15: no value breaks the widest range, and one bound leaves one value");
        QualityGate gate = Gates.withColumn(-99, 99, M, 0);
        gate.addRange(0, -99, 99, false);
        check.due("false false false false", bad(gate));
        gate.addRange(0, 99, 99, false);
        check.due("true false false true", bad(gate));
        gate.addRange(0, -99, -99, false);
        check.due(2, gate.violations(2));
    }

    // ---- promise 16

    private void requiredColumns() {
        check.test("promise 16: the first to the last column, and those beside them");
        QualityGate gate = new QualityGate();
        check.dueFromTo(0, 4, IndexOutOfBoundsException.class, column -> gate.addRequired(column, true));
        check.due(5, gate.addRequired(0, false));
    }

    private void requiredExceptionsInOrder() {
        check.test("promise 16: no such column comes before ten rules");
        QualityGate gate = new QualityGate();
        Gates.fillRules(gate);
        check.dueThrow(IndexOutOfBoundsException.class, () -> gate.addRequired(5, true));
        check.dueThrow(IndexOutOfBoundsException.class, () -> gate.addRequired(-1, true));
        check.dueThrow(IllegalStateException.class, () -> gate.addRequired(4, true));
    }

    private void requiredValues() {
        check.test("promise 16: MISSING alone breaks the rule, in its column alone");
        QualityGate gate = Gates.with(Gates.row(0, M, 0, 0, 0), Gates.row(0, 99, 0, 0, 0), Gates.row(0, -99, 0, 0, 0),
                Gates.row(M, 0, M, M, M));
        gate.addRequired(1, false);
        check.due("true false false false", bad(gate));
    }

    // ---- promise 17

    private void orderFirstColumns() {
        check.test("promise 17: the first to the last column and those beside them, as the first one");
        QualityGate gate = new QualityGate();
        check.dueFromTo(0, 4, IndexOutOfBoundsException.class,
                first -> gate.addOrder(first, first == 0 ? 4 : 0, false));
        check.due(5, gate.addRequired(0, false));
    }

    private void orderSecondColumns() {
        check.test("promise 17: the first to the last column and those beside them, as the second one");
        QualityGate gate = new QualityGate();
        check.dueFromTo(0, 4, IndexOutOfBoundsException.class,
                second -> gate.addOrder(second == 0 ? 4 : 0, second, false));
        check.due(5, gate.addRequired(0, false));
    }

    private void sameColumns() {
        check.test("promise 17: both columns are the same");
        QualityGate gate = new QualityGate();
        for (int column = 0; column < 5; column++) {
            int both = column;
            check.dueThrow(IllegalArgumentException.class, () -> gate.addOrder(both, both, true));
        }
        check.due(0, gate.addOrder(0, 1, true));
        check.due(1, gate.addOrder(1, 0, true));
    }

    private void orderExceptionsInOrder() {
        check.test("promise 17: no such column, then the same columns, then ten rules");
        QualityGate gate = new QualityGate();
        check.dueThrow(IndexOutOfBoundsException.class, () -> gate.addOrder(5, 5, true));
        check.dueThrow(IndexOutOfBoundsException.class, () -> gate.addOrder(-1, -1, true));
        Gates.fillRules(gate);
        check.dueThrow(IndexOutOfBoundsException.class, () -> gate.addOrder(5, 5, true));
        check.dueThrow(IndexOutOfBoundsException.class, () -> gate.addOrder(5, 0, true));
        check.dueThrow(IndexOutOfBoundsException.class, () -> gate.addOrder(0, -1, true));
        check.dueThrow(IllegalArgumentException.class, () -> gate.addOrder(4, 4, true));
        check.dueThrow(IllegalStateException.class, () -> gate.addOrder(4, 3, true));
    }

    private void equalValuesInOrder() {
        check.test("promise 17: equal values do not break the rule, one more in the first column does");
        QualityGate gate = Gates.with(Gates.row(0, 5, 0, 0, 4), Gates.row(0, 5, 0, 0, 5), Gates.row(0, 5, 0, 0, 6),
                Gates.row(0, 99, 0, 0, -99), Gates.row(0, -99, 0, 0, 99));
        gate.addOrder(1, 4, false);
        check.due("true false false true false", bad(gate));
    }

    private void missingValuesInOrder() {
        check.test("promise 17: a rule is not broken if a value is MISSING, in either column or in both");
        QualityGate gate = Gates.with(Gates.row(M, -99, 0, 0, 0), Gates.row(99, M, 0, 0, 0), Gates.row(M, M, 0, 0, 0));
        gate.addOrder(0, 1, false);
        check.due("false false false", bad(gate));
    }

    // ---- promise 18

    private void uniqueColumns() {
        check.test("promise 18: the first to the last column, and those beside them");
        QualityGate gate = new QualityGate();
        check.dueFromTo(0, 4, IndexOutOfBoundsException.class, column -> gate.addUnique(column, true));
        check.due(5, gate.addRequired(0, false));
    }

    private void uniqueExceptionsInOrder() {
        check.test("promise 18: no such column comes before ten rules");
        QualityGate gate = new QualityGate();
        Gates.fillRules(gate);
        check.dueThrow(IndexOutOfBoundsException.class, () -> gate.addUnique(5, true));
        check.dueThrow(IndexOutOfBoundsException.class, () -> gate.addUnique(-1, true));
        check.dueThrow(IllegalStateException.class, () -> gate.addUnique(4, true));
    }

    private void uniqueValues() {
        check.test("promise 18: two MISSING do not conflict, and equal numbers do in the column alone");
        QualityGate gate = Gates.with(Gates.row(0, 0, M, 0, 0), Gates.row(0, 0, M, 0, 0), Gates.row(0, 0, 99, 0, 0),
                Gates.row(0, 0, 99, 0, 0), Gates.row(0, 0, -99, 0, 0));
        gate.addUnique(2, false);
        check.due(1, gate.violations(0));
        check.due(false, gate.conflict(0, 1));
        check.due(false, gate.conflict(1, 2));
        check.due(true, gate.conflict(2, 3));
        check.due(false, gate.conflict(3, 4));
    }

    // ---- promise 19

    private void dependencyColumns() {
        check.test("promise 19: the first to the last column, and those beside them");
        QualityGate gate = new QualityGate();
        check.dueFromTo(0, 4, IndexOutOfBoundsException.class, column -> gate.addDependency(0, column, true));
        check.due(5, gate.addRequired(0, false));
    }

    private void dependencySets() {
        check.test("promise 19: the first to the last set without the column, and those beside them");
        for (int column = 0; column < 5; column++) {
            int at = column;
            for (int half = 0; half < 16; half++) {
                int low = half & (1 << column) - 1;
                int set = low | half - low << 1;
                check.due(0, new QualityGate().addDependency(set, at, true));
            }
            for (int wrong : new int[] {-1, -2, -32, 32, 64, Integer.MIN_VALUE, Integer.MAX_VALUE}) {
                check.dueThrow(IllegalArgumentException.class, () -> new QualityGate().addDependency(wrong, at, true));
            }
        }
    }

    private void columnInSet() {
        check.test("promise 19: the column belongs to the set");
        for (int column = 0; column < 5; column++) {
            int at = column;
            for (int set = 0; set < 32; set++) {
                int bits = set | 1 << column;
                check.dueThrow(IllegalArgumentException.class, () -> new QualityGate().addDependency(bits, at, true));
            }
        }
    }

    private void wholeSet() {
        check.test("promise 19: all columns but one");
        QualityGate gate = Gates.with(Gates.row(1, 1, 1, 1, 1), Gates.row(1, 1, 1, 1, 2), Gates.row(2, 1, 1, 1, 1));
        check.due(0, gate.addDependency(15, 4, false));
        check.due(1, gate.addDependency(30, 0, false));
        check.due(1, gate.violations(0));
        check.due(1, gate.violations(1));
        check.due(true, gate.conflict(0, 1));
        check.due(true, gate.conflict(0, 2));
        check.due(false, gate.conflict(1, 2));
    }

    private void dependencyExceptionsInOrder() {
        check.test("promise 19: no such column, then a wrong set, then ten rules");
        QualityGate gate = new QualityGate();
        check.dueThrow(IndexOutOfBoundsException.class, () -> gate.addDependency(32, 5, true));
        check.dueThrow(IndexOutOfBoundsException.class, () -> gate.addDependency(-1, -1, true));
        Gates.fillRules(gate);
        check.dueThrow(IndexOutOfBoundsException.class, () -> gate.addDependency(32, 5, true));
        check.dueThrow(IndexOutOfBoundsException.class, () -> gate.addDependency(0, -1, true));
        check.dueThrow(IllegalArgumentException.class, () -> gate.addDependency(32, 0, true));
        check.dueThrow(IllegalArgumentException.class, () -> gate.addDependency(-1, 0, true));
        check.dueThrow(IllegalArgumentException.class, () -> gate.addDependency(31, 0, true));
        check.dueThrow(IllegalStateException.class, () -> gate.addDependency(30, 0, true));
    }

    private void dependencyWithMissing() {
        check.test("promise 19: two MISSING are equal, in the set and in the column");
        QualityGate gate = Gates.with(Gates.row(M, M, 0, 0, 0), Gates.row(M, M, 0, 0, 0), Gates.row(M, 1, 0, 0, 0),
                Gates.row(99, 2, 0, 0, 0));
        gate.addDependency(1, 1, false);
        check.due(2, gate.violations(0));
        check.due(false, gate.conflict(0, 1));
        check.due(true, gate.conflict(0, 2));
        check.due(false, gate.conflict(2, 3));
    }

    private void dependencyOfTheEmptySet() {
        check.test("promise 19: by the empty set all rows with different values conflict");
        QualityGate gate = Gates.full();
        gate.addDependency(0, 0, false);
        gate.addDependency(0, 1, false);
        check.due(66, gate.violations(0));
        check.due(0, gate.violations(1));
    }

    // ---- promise 20

    private void dropFromNoRules() {
        check.test("promise 20: no rule was added");
        QualityGate gate = new QualityGate();
        for (int rule : new int[] {-1, 0, 9, 10, Integer.MIN_VALUE, Integer.MAX_VALUE}) {
            check.dueThrow(IndexOutOfBoundsException.class, () -> gate.dropRule(rule));
        }
    }

    private void dropFirstToLast() {
        check.test("promise 20: the first to the last of some rules, and the numbers beside them");
        for (int count : new int[] {1, 3, 10}) {
            check.dueFromTo(0, count - 1, IndexOutOfBoundsException.class, rule -> withRules(count).dropRule(rule));
            check.due(count - 1, withRules(count).dropRule(count - 1));
            check.due(count - 1, withRules(count).dropRule(0));
        }
    }

    private static QualityGate withRules(int count) {
        QualityGate gate = new QualityGate();
        for (int rule = 0; rule < count; rule++) {
            gate.addRequired(rule % 5, rule % 2 == 0);
        }
        return gate;
    }

    private void dropTwice() {
        check.test("promise 20: a rule is dropped once");
        QualityGate gate = withRules(3);
        check.due(2, gate.dropRule(1));
        check.dueThrow(IllegalStateException.class, () -> gate.dropRule(1));
        check.due(1, gate.dropRule(0));
    }

    private void dropAllOfTen() {
        check.test("promise 20: all of ten rules are dropped");
        QualityGate gate = withRules(10);
        for (int rule = 9; rule >= 0; rule--) {
            check.due(rule, gate.dropRule(rule));
        }
        for (int rule = 0; rule < 10; rule++) {
            int number = rule;
            check.dueThrow(IllegalStateException.class, () -> gate.dropRule(number));
        }
        check.dueThrow(IndexOutOfBoundsException.class, () -> gate.dropRule(10));
    }

    private void droppedRuleKeepsItsNumber() {
        check.test("promise 20: a dropped rule keeps its number");
        QualityGate gate = Gates.withColumn(M, 1, 1);
        gate.addRequired(1, false);
        gate.addUnique(0, false);
        gate.dropRule(0);
        check.due(1, gate.violations(1));
        check.due(2, gate.addRequired(0, false));
        check.dueThrow(IllegalStateException.class, () -> gate.violations(0));
        gate.dropRule(2);
        check.due(3, gate.addRequired(0, false));
        check.due(1, gate.violations(3));
    }

    private void droppedRuleDoesNotCount() {
        check.test("promise 20: a dropped rule does not count any more");
        QualityGate gate = Gates.withColumn(M, 1, 1);
        gate.addRequired(0, true);
        gate.addUnique(0, true);
        check.due(2, gate.fewestRemovals());
        gate.dropRule(0);
        check.due(false, gate.isBad(0));
        check.due(1, gate.fewestRemovals());
        gate.dropRule(1);
        check.due(false, gate.conflict(1, 2));
        check.due(3, gate.groups());
        check.due(0, gate.fewestRemovalsByTrying());
    }
}
