import java.util.NoSuchElementException;

/** The sentences of the promises 15 to 25. */
final class RuleSentenceTest {
    private static final int M = Gates.M;
    private static final int[] WRONG_SETS = {-1, -2, -32, 32, 33, 63, 64, Integer.MIN_VALUE, Integer.MAX_VALUE};

    private final Check check;
    private final Sentences document;

    RuleSentenceTest(Check check, Sentences document) {
        this.check = check;
        this.document = document;
    }

    void run() {
        addRange();
        addRequired();
        addOrder();
        addUnique();
        addDependency();
        dropRule();
        violations();
        isBad();
        conflict();
        groups();
        groupSize();
    }

    /** Adds a rule to a gate. */
    private interface Adding {
        int to(QualityGate gate);
    }

    private interface AddingStrict {
        int to(QualityGate gate, boolean isStrict);
    }

    private interface AddingAt {
        int to(QualityGate gate, int column);
    }

    /** The row 1 2 3 4 M breaks the rule, or conflicts by it with the row 1 0 0 0 0. */
    private void strictOrNot(AddingStrict adding) {
        document.says("- `isStrict`: whether the rule is strict");
        QualityGate strict = Gates.with(Gates.row(1, 0, 0, 0, 0));
        adding.to(strict, true);
        strict.stage(1, 2, 3, 4, M);
        check.dueThrow(UnsupportedOperationException.class, strict::commit);
        check.due(0, strict.rejectedRow());
        check.due(0, strict.rejectedRule());
        QualityGate other = Gates.with(Gates.row(1, 0, 0, 0, 0));
        adding.to(other, false);
        other.stage(1, 2, 3, 4, M);
        check.due(2, other.commit());
        check.due(1, other.violations(0));
        check.dueThrow(NoSuchElementException.class, other::rejectedRule);
    }

    private void numberOfRule(Adding adding) {
        document.says("Returns the number of the rule.");
        QualityGate gate = new QualityGate();
        for (int number = 0; number < 10; number++) {
            check.due(number, adding.to(gate));
            if (number % 3 == 0) {
                gate.dropRule(number);
            }
        }
        QualityGate mixed = new QualityGate();
        mixed.addRequired(0, true);
        mixed.addUnique(0, true);
        check.due(2, adding.to(mixed));
        check.due(0, mixed.violations(2));
    }

    private void noSuchColumn(AddingAt adding) {
        document.says("Throws `IndexOutOfBoundsException` if there is no such column");
        dueColumns(adding);
    }

    private void dueColumns(AddingAt adding) {
        check.dueFromTo(0, 4, IndexOutOfBoundsException.class, column -> adding.to(new QualityGate(), column));
        QualityGate gate = new QualityGate();
        check.dueThrow(IndexOutOfBoundsException.class, () -> adding.to(gate, 5));
        check.due(0, gate.addRequired(0, false));
    }

    private void tenRules(Adding adding) {
        document.says("Throws `IllegalStateException` if 10 rules have been added");
        QualityGate gate = Gates.withColumn(1, 1);
        for (int rule = 0; rule < 9; rule++) {
            gate.addRequired(0, false);
        }
        check.due(9, adding.to(gate));
        check.dueThrow(IllegalStateException.class, () -> adding.to(gate));
        gate.dropRule(0);
        gate.dropRule(9);
        check.dueThrow(IllegalStateException.class, () -> adding.to(gate));
        check.dueThrow(IndexOutOfBoundsException.class, () -> gate.violations(10));
        check.due(7, gate.dropRule(5));
    }

    /** The ids of the bad rows. */
    private static String bad(QualityGate gate) {
        StringBuilder text = new StringBuilder();
        for (int position = 0; position < gate.rowCount(); position++) {
            int id = gate.rowAt(position);
            text.append(gate.isBad(id) ? (text.length() == 0 ? "" : " ") + id : "");
        }
        return text.toString();
    }

    // ---- promise 15

    private void addRange() {
        document.section("promise 15");
        document.says("Adds a range rule.");
        QualityGate gate = Gates.withColumn(-6, -5, 0, 8, 9, M);
        gate.addRange(0, -5, 8, false);
        check.due("0 4", bad(gate));
        check.due(2, gate.violations(0));
        check.due(2, gate.fewestRemovals());

        document.says("- `column`: the column");
        rowRuleLooksAtItsColumn((each, column) -> each.addRange(column, 1, 9, false), 0);
        lowerBound();
        upperBound();
        strictOrNot((each, isStrict) -> each.addRange(3, 0, 3, isStrict));
        numberOfRule(each -> each.addRange(2, -1, 1, false));
        noSuchColumn((each, column) -> each.addRange(column, 0, 0, true));
        boundOutOfRange();
        tenRules(each -> each.addRange(4, 0, 0, true));
    }

    /** Of rows with 5 everywhere but for another value in one column, the rule looks at its own column alone. */
    private void rowRuleLooksAtItsColumn(AddingAt adding, int breaking) {
        QualityGate gate = new QualityGate();
        for (int column = 0; column < 5; column++) {
            int[] row = {5, 5, 5, 5, 5};
            row[column] = breaking;
            Gates.add(gate, row);
        }
        for (int column = 0; column < 5; column++) {
            adding.to(gate, column);
            check.due(1, gate.violations(column));
            check.due(String.valueOf(column), bad(gate));
            gate.dropRule(column);
        }
    }

    private void lowerBound() {
        document.says("- `low`: the lower bound, -99 to 99");
        check.dueFromTo(-99, 99, IllegalArgumentException.class, low -> new QualityGate().addRange(0, low, 99, false));
        for (int low = -98; low <= 99; low++) {
            QualityGate gate = Gates.withColumn(low - 1, low, M);
            gate.addRange(0, low, 99, false);
            check.due("0", bad(gate));
        }
        QualityGate lowest = Gates.withColumn(-99, -98);
        lowest.addRange(0, -99, 99, false);
        check.due("", bad(lowest));
    }

    private void upperBound() {
        document.says("- `high`: the upper bound, from low to 99");
        for (int low : new int[] {-99, -3, 0, 98, 99}) {
            check.dueFromTo(low, 99, IllegalArgumentException.class, high -> new QualityGate().addRange(0, low, high,
                    false));
        }
        for (int high = -99; high <= 98; high++) {
            QualityGate gate = Gates.withColumn(high, high + 1, M);
            gate.addRange(0, -99, high, false);
            check.due("1", bad(gate));
        }
        QualityGate highest = Gates.withColumn(99, M);
        highest.addRange(0, 99, 99, false);
        check.due("", bad(highest));
    }

    private void boundOutOfRange() {
        document.says("Throws `IllegalArgumentException` if a bound is out of range");
        int[][] wrong = {{-100, 0}, {-100, -100}, {100, 100}, {0, 100}, {0, 101}, {1, 0}, {99, 98}, {-98, -99},
                {0, Integer.MAX_VALUE}, {Integer.MIN_VALUE, 0}, {0, Integer.MIN_VALUE}, {Integer.MAX_VALUE, 0}};
        QualityGate gate = new QualityGate();
        for (int[] bounds : wrong) {
            check.dueThrow(IllegalArgumentException.class, () -> gate.addRange(0, bounds[0], bounds[1], true));
        }
        check.due(0, gate.addRange(0, -99, -99, true));
    }

    // ---- promise 16

    private void addRequired() {
        document.section("promise 16");
        document.says("Adds a required rule.");
        QualityGate gate = Gates.withColumn(-99, M, 0, M, 99);
        gate.addRequired(0, false);
        check.due("1 3", bad(gate));
        check.due(2, gate.violations(0));

        document.says("- `column`: the column");
        rowRuleLooksAtItsColumn((each, column) -> each.addRequired(column, false), M);
        strictOrNot((each, isStrict) -> each.addRequired(4, isStrict));
        numberOfRule(each -> each.addRequired(3, true));
        noSuchColumn((each, column) -> each.addRequired(column, false));
        tenRules(each -> each.addRequired(4, true));
    }

    // ---- promise 17

    private void addOrder() {
        document.section("promise 17");
        document.says("Adds an order rule.");
        QualityGate gate = Gates.with(Gates.row(0, 4, 0, 5, 0), Gates.row(0, 5, 0, 5, 0), Gates.row(0, 6, 0, 5, 0),
                Gates.row(0, M, 0, 5, 0), Gates.row(0, 6, 0, M, 0), Gates.row(0, M, 0, M, 0),
                Gates.row(0, 99, 0, -99, 0));
        gate.addOrder(1, 3, false);
        check.due("2 6", bad(gate));
        check.due(2, gate.violations(0));

        document.says("- `first`: the first column");
        rowRuleLooksAtItsColumn((each, first) -> each.addOrder(first, (first + 1) % 5, false), 6);

        document.says("- `second`: the second column");
        rowRuleLooksAtItsColumn((each, second) -> each.addOrder((second + 2) % 5, second, false), 4);
        strictOrNot((each, isStrict) -> each.addOrder(3, 2, isStrict));
        numberOfRule(each -> each.addOrder(4, 0, true));

        document.says("Throws `IndexOutOfBoundsException` if there is no such column, for first or second");
        dueColumns((each, first) -> each.addOrder(first, first == 3 ? 2 : 3, true));
        dueColumns((each, second) -> each.addOrder(second == 3 ? 2 : 3, second, true));
        check.dueThrow(IndexOutOfBoundsException.class, () -> new QualityGate().addOrder(-1, 5, true));

        document.says("Throws `IllegalArgumentException` if both columns are the same");
        for (int first = 0; first < 5; first++) {
            for (int second = 0; second < 5; second++) {
                int one = first;
                int two = second;
                Object outcome = Check.ownOutcome(() -> new QualityGate().addOrder(one, two, true));
                check.due(first == second ? "throws.IllegalArgumentException" : (Object) 0, outcome);
            }
        }
        tenRules(each -> each.addOrder(4, 0, true));
    }

    // ---- promises 18 and 19

    private void addUnique() {
        document.section("promise 18");
        document.says("Adds a unique rule.");
        QualityGate gate = Gates.withColumn(7, M, 8, 7, M, 7, -7);
        gate.addUnique(0, false);
        check.due(3, gate.violations(0));
        check.due("true true false false", gate.conflict(0, 3) + " " + gate.conflict(5, 3) + " " + gate.conflict(1, 4)
                + " " + gate.conflict(0, 6));
        check.due("", bad(gate));

        document.says("- `column`: the column");
        for (int column = 0; column < 5; column++) {
            QualityGate each = Gates.with(Gates.row(1, 2, 3, 4, 5), Gates.row(6, 7, 8, 9, 10));
            each.addUnique(column, false);
            check.due(0, each.violations(0));
            each.setValue(1, column, each.valueAt(0, column));
            check.due(1, each.violations(0));
            each.setValue(1, column, M);
            each.setValue(1, (column + 1) % 5, each.valueAt(0, (column + 1) % 5));
            check.due(0, each.violations(0));
        }
        strictOrNot((each, isStrict) -> each.addUnique(0, isStrict));
        numberOfRule(each -> each.addUnique(3, true));
        noSuchColumn((each, column) -> each.addUnique(column, false));
        tenRules(each -> each.addUnique(4, true));
    }

    private void addDependency() {
        document.section("promise 19");
        document.says("Adds a dependency rule.");
        QualityGate gate = Gates.with(Gates.row(1, M, 5, 0, 0), Gates.row(1, M, 6, 0, 0), Gates.row(1, 2, 7, 0, 0),
                Gates.row(3, M, 8, 0, 0), Gates.row(1, M, M, 0, 0), Gates.row(1, M, 5, 9, 9));
        gate.addDependency(3, 2, false);
        check.due(5, gate.violations(0));
        check.due("true false true false", gate.conflict(0, 1) + " " + gate.conflict(0, 5) + " " + gate.conflict(4, 5)
                + " " + gate.conflict(2, 0));
        dependencySet();
        dependencyColumn();
        strictOrNot((each, isStrict) -> each.addDependency(1, 1, isStrict));
        numberOfRule(each -> each.addDependency(7, 4, true));
        noSuchColumn((each, column) -> each.addDependency(31 - (1 << (column & 7)) & 31, column, true));

        document.says("Throws `IllegalArgumentException` if the set is not 0 to 31, or the column belongs to it");
        for (int column = 0; column < 5; column++) {
            int at = column;
            for (int wrong : WRONG_SETS) {
                check.dueThrow(IllegalArgumentException.class, () -> new QualityGate().addDependency(wrong, at, true));
            }
            for (int set = 0; set < 32; set++) {
                int bits = set;
                Object outcome = Check.ownOutcome(() -> new QualityGate().addDependency(bits, at, true));
                check.due((set >> column & 1) == 1 ? "throws.IllegalArgumentException" : (Object) 0, outcome);
            }
        }
        tenRules(each -> each.addDependency(15, 4, true));
    }

    private void dependencySet() {
        document.says("- `set`: the set of columns");
        for (int set = 0; set < 16; set++) {
            for (int different = 0; different < 16; different++) {
                QualityGate gate = Gates.with(Gates.row(0, 0, 0, 0, 1),
                        Gates.row(different & 1, different & 2, different & 4, different & 8, 2));
                gate.addDependency(set, 4, false);
                check.due((set & different) == 0, gate.conflict(0, 1));
            }
        }
    }

    private void dependencyColumn() {
        document.says("- `column`: the column");
        for (int column = 0; column < 5; column++) {
            QualityGate gate = Gates.with(Gates.row(1, 1, 1, 1, 1), Gates.row(2, 2, 2, 2, 2));
            gate.addDependency(0, column, false);
            check.due(1, gate.violations(0));
            gate.setValue(1, column, 1);
            check.due(0, gate.violations(0));
        }
    }

    // ---- promise 20

    private void dropRule() {
        document.section("promise 20");
        document.says("Drops a rule.");
        QualityGate gate = broken();
        for (int rule = 0; rule < 5; rule++) {
            int number = rule;
            gate.stage(9, M, 1, 0, 7);
            check.dueThrow(UnsupportedOperationException.class, gate::commit);
            check.due(rule, gate.rejectedRule());
            gate.discard();
            gate.dropRule(rule);
            check.dueThrow(IllegalStateException.class, () -> gate.violations(number));
        }
        check.due("", bad(gate));
        check.due(2, gate.groups());
        check.due(0, gate.fewestRemovals());
        gate.stage(9, M, 1, 0, 7);
        check.due(3, gate.commit());

        document.says("- `rule`: the number of the rule");
        QualityGate third = broken();
        third.dropRule(2);
        check.dueThrow(IllegalStateException.class, () -> third.violations(2));
        check.due("2 2 1 1", third.violations(0) + " " + third.violations(1) + " " + third.violations(3) + " "
                + third.violations(4));

        document.says("Returns the number of rules that are not dropped after the call.");
        check.due(3, third.dropRule(4));
        check.due(2, third.dropRule(0));
        check.due(5, third.addRequired(0, false));
        check.due(2, third.dropRule(5));
        check.due(1, third.dropRule(1));
        check.due(0, third.dropRule(3));

        document.says("Throws `IndexOutOfBoundsException` if no rule with this number was added");
        noSuchRule(QualityGate::dropRule);

        document.says("Throws `IllegalStateException` if the rule is dropped already");
        for (int rule = 0; rule < 6; rule++) {
            int number = rule;
            check.dueThrow(IllegalStateException.class, () -> third.dropRule(number));
        }
        check.due(6, third.addRequired(0, false));
        check.due(0, third.dropRule(6));
        check.dueThrow(IllegalStateException.class, () -> third.dropRule(6));
    }

    /** A gate with two rows that break three row rules and conflict by two pair rules, all of them strict. */
    private static QualityGate broken() {
        QualityGate gate = Gates.with(Gates.row(9, M, 1, 0, 7), Gates.row(9, M, 1, 0, 8));
        gate.addRange(0, 0, 8, true);
        gate.addRequired(1, true);
        gate.addOrder(2, 3, true);
        gate.addUnique(0, true);
        gate.addDependency(2, 4, true);
        return gate;
    }

    private interface RuleCall {
        Object on(QualityGate gate, int rule);
    }

    private void noSuchRule(RuleCall call) {
        for (int rules = 0; rules <= 10; rules++) {
            for (int rule : new int[] {-1, rules, rules + 1, 10, Integer.MIN_VALUE, Integer.MAX_VALUE}) {
                QualityGate gate = new QualityGate();
                for (int added = 0; added < rules; added++) {
                    gate.addRequired(0, false);
                }
                check.dueThrow(IndexOutOfBoundsException.class, () -> call.on(gate, rule));
            }
        }
    }

    // ---- promises 21 to 23

    private void violations() {
        document.section("promise 21");
        document.says("Returns how often a rule is violated: for a row rule, the number of rows of the table that"
                + " break it; for a pair rule, the number of pairs of rows of the table that conflict by it, where"
                + " the order of the two rows does not matter.");
        QualityGate gate = broken();
        check.due("2 2 2 1 1", violated(gate));
        gate.stage(9, M, 1, 0, 5);
        check.due("2 2 2 1 1", violated(gate));
        QualityGate four = Gates.with(Gates.row(4, 1, 0, 0, 0), Gates.row(4, 1, 1, 0, 0), Gates.row(4, 1, 2, 0, 0),
                Gates.row(4, 2, 3, 0, 0));
        four.addUnique(0, false);
        four.addDependency(2, 2, false);
        four.addRange(0, 5, 5, false);
        check.due("6 3 4", four.violations(0) + " " + four.violations(1) + " " + four.violations(2));

        document.says("- `rule`: the number of the rule");
        four.dropRule(0);
        check.due("3 4", four.violations(1) + " " + four.violations(2));
        check.due(3, four.addRequired(0, false));
        check.due("3 4 0", four.violations(1) + " " + four.violations(2) + " " + four.violations(3));

        document.says("Returns the number of rows or pairs.");
        QualityGate full = Gates.full();
        full.addUnique(1, false);
        full.addRange(0, 50, 60, false);
        for (int rows = 12; rows >= 1; rows--) {
            check.due(rows * (rows - 1) / 2, full.violations(0));
            check.due(rows, full.violations(1));
            full.removeRow(12 - rows);
        }
        check.due("0 0", full.violations(0) + " " + full.violations(1));

        document.says("Throws `IndexOutOfBoundsException` if no rule with this number was added");
        noSuchRule(QualityGate::violations);

        document.says("Throws `IllegalStateException` if the rule is dropped");
        check.dueThrow(IllegalStateException.class, () -> four.violations(0));
        four.dropRule(3);
        check.dueThrow(IllegalStateException.class, () -> four.violations(3));
        check.due(3, four.violations(1));
    }

    private static String violated(QualityGate gate) {
        StringBuilder text = new StringBuilder();
        for (int rule = 0; rule < 5; rule++) {
            text.append(rule == 0 ? "" : " ").append(gate.violations(rule));
        }
        return text.toString();
    }

    private interface RowCall {
        Object on(QualityGate gate, int id);
    }

    /** Rows that are there are taken; rows that were removed or are staged, and those that never were, are not. */
    private void noSuchRow(RowCall call) {
        QualityGate gate = Gates.withColumn(1, 1, 2, 2, 2, 3);
        gate.addUnique(0, false);
        gate.removeRow(0);
        gate.removeRow(4);
        gate.stage(1, 1, 1, 1, 1);
        for (int id : new int[] {1, 2, 3, 5}) {
            check.due(false, Check.ownOutcome(() -> call.on(gate, id)).toString().contains("throws"));
        }
        for (int id : new int[] {-1, 0, 4, 6, 7, Integer.MIN_VALUE, Integer.MAX_VALUE}) {
            check.dueThrow(NoSuchElementException.class, () -> call.on(gate, id));
            check.dueThrow(NoSuchElementException.class, () -> call.on(new QualityGate(), id));
        }
    }

    private void isBad() {
        document.section("promise 22");
        document.says("Tells whether a row of the table is bad.");
        QualityGate gate = Gates.withColumn(5, 6, 7, M, 5);
        check.due("", bad(gate));
        gate.addRange(0, 0, 6, false);
        check.due("2", bad(gate));
        gate.addRequired(0, true);
        check.due("2 3", bad(gate));
        gate.addUnique(0, true);
        check.due("2 3", bad(gate));

        document.says("- `id`: the id of the row");
        gate.removeRow(0);
        gate.removeRow(2);
        check.due("3", bad(gate));
        check.due(false, gate.isBad(1));
        check.due(true, gate.isBad(3));

        document.says("Returns whether it is bad.");
        gate.setValue(1, 0, 99);
        check.due(true, gate.isBad(1));
        gate.setValue(3, 0, 0);
        check.due(false, gate.isBad(3));
        gate.dropRule(0);
        check.due(false, gate.isBad(1));

        document.says("Throws `NoSuchElementException` if there is no such row");
        noSuchRow(QualityGate::isBad);
    }

    private void conflict() {
        document.section("promise 23");
        document.says("Tells whether two rows of the table conflict.");
        QualityGate gate = Gates.with(Gates.row(1, 5, 0, 0, 0), Gates.row(2, 5, 0, 0, 0), Gates.row(1, 6, 0, 0, 0),
                Gates.row(M, 7, 0, 0, 0), Gates.row(M, 7, 0, 0, 0));
        check.due("", conflicts(gate));
        gate.addUnique(0, false);
        check.due("0-2", conflicts(gate));
        gate.addDependency(2, 0, false);
        check.due("0-1 0-2", conflicts(gate));
        gate.addRequired(0, false);
        check.due("0-1 0-2", conflicts(gate));

        document.says("- `id`: the id of a row");
        gate.removeRow(1);
        check.due(true, gate.conflict(0, 2));
        check.due(false, gate.conflict(4, 2));

        document.says("- `other`: the id of another row");
        check.due(true, gate.conflict(2, 0));
        check.due(false, gate.conflict(2, 4));

        document.says("Returns whether they conflict.");
        gate.setValue(2, 0, 3);
        check.due(false, gate.conflict(0, 2));
        gate.setValue(4, 0, 3);
        check.due(true, gate.conflict(4, 2));
        check.due(true, gate.conflict(4, 3));
        gate.dropRule(1);
        check.due(false, gate.conflict(4, 3));

        document.says("Throws `NoSuchElementException` if there is no such row, for id or other");
        noSuchRow((each, id) -> each.conflict(id, id == 5 ? 3 : 5));
        noSuchRow((each, id) -> each.conflict(id == 5 ? 3 : 5, id));
        check.dueThrow(NoSuchElementException.class, () -> gate.conflict(1, 1));
        check.dueThrow(NoSuchElementException.class, () -> gate.conflict(1, 7));

        document.says("Throws `IllegalArgumentException` if both ids are the same");
        for (int id : new int[] {0, 2, 3, 4}) {
            check.dueThrow(IllegalArgumentException.class, () -> gate.conflict(id, id));
        }
    }

    /** The pairs of rows that conflict, asked in both orders. */
    private String conflicts(QualityGate gate) {
        StringBuilder text = new StringBuilder();
        for (int id = 0; id < gate.rowCount(); id++) {
            for (int other = id + 1; other < gate.rowCount(); other++) {
                check.due(gate.conflict(id, other), gate.conflict(other, id));
                if (gate.conflict(id, other)) {
                    text.append(text.length() == 0 ? "" : " ").append(id).append('-').append(other);
                }
            }
        }
        return text.toString();
    }

    // ---- promises 24 and 25

    /** The rows 0 and 5, 5 and 3, and 3 and 1 conflict; so do 2 and 4; row 6 is bad and conflicts with none. */
    private static QualityGate grouped() {
        QualityGate gate = Gates.with(Gates.row(1, 20, 0, 0, 0), Gates.row(4, 21, 0, 0, 0), Gates.row(3, 22, 0, 0, 0),
                Gates.row(4, 24, 0, 0, 0), Gates.row(3, 23, 0, 0, 0), Gates.row(1, 24, 0, 0, 0),
                Gates.row(6, 25, 0, 99, 0));
        gate.addUnique(0, false);
        gate.addUnique(1, true);
        gate.addRange(3, 0, 50, false);
        return gate;
    }

    /** A full table in which each row conflicts with the next one of an order that goes to and fro. */
    private static QualityGate zigzag() {
        int[] order = {5, 6, 4, 7, 3, 8, 2, 9, 1, 10, 0, 11};
        QualityGate gate = Gates.full();
        for (int place = 0; place < 12; place++) {
            gate.setValue(order[place], 0, place / 2);
            gate.setValue(order[place], 1, (place + 1) / 2);
        }
        gate.addUnique(0, false);
        gate.addUnique(1, false);
        return gate;
    }

    private void groups() {
        document.section("promise 24");
        document.says("Returns the number of groups of rows of the table: two rows belong to the same group if they"
                + " conflict, or if one can be reached from the other over rows of which each one conflicts with the"
                + " next one.");
        QualityGate gate = grouped();
        check.due(3, gate.groups());
        QualityGate chain = Gates.with(Gates.row(1, 20, M, 0, 0), Gates.row(4, 21, M, 0, 0), Gates.row(1, 22, M, 0, 0),
                Gates.row(2, 20, M, 0, 0), Gates.row(2, 21, M, 0, 0));
        chain.addUnique(0, false);
        check.due(3, chain.groups());
        chain.addUnique(1, false);
        check.due(1, chain.groups());
        chain.removeRow(3);
        check.due(2, chain.groups());
        chain.stage(2, 20, M, 0, 0);
        check.due(2, chain.groups());
        QualityGate longest = zigzag();
        check.due(1, longest.groups());
        longest.removeRow(3);
        check.due(2, longest.groups());

        document.says("A row without conflicts is a group of its own.");
        check.due(12, Gates.full().groups());
        gate.removeRow(5);
        check.due(4, gate.groups());
        gate.setValue(3, 0, 30);
        check.due(5, gate.groups());

        document.says("Returns the number of groups.");
        check.due(0, new QualityGate().groups());
        check.due(1, Gates.withColumn(M).groups());
        QualityGate full = Gates.full();
        full.addUnique(0, false);
        for (int same = 1; same < 12; same++) {
            full.setValue(same, 0, 0);
            check.due(12 - same, full.groups());
        }
    }

    private void groupSize() {
        document.section("promise 25");
        document.says("Returns the number of rows of the group of a row.");
        QualityGate gate = grouped();
        check.due("4 4 2 4 2 4 1", sizes(gate));
        gate.addUnique(2, false);
        check.due("7 7 7 7 7 7 7", sizes(gate));
        check.due("12 12 12 12 12 12 12 12 12 12 12 12", sizes(zigzag()));

        document.says("- `id`: the id of the row");
        gate.dropRule(3);
        gate.removeRow(0);
        check.due("3 2 3 2 3 1", sizes(gate));
        gate.removeRow(3);
        check.due(1, gate.groupSize(5));
        check.due(2, gate.groupSize(2));

        document.says("Returns the number of rows.");
        QualityGate full = Gates.full();
        full.addUnique(0, false);
        for (int same = 0; same < 12; same++) {
            full.setValue(same, 0, 50);
            check.due(same + 1, full.groupSize(0));
            check.due(same + 1, full.groupSize(same));
            check.due(same == 11 ? 12 : 1, full.groupSize(11));
        }

        document.says("Throws `NoSuchElementException` if there is no such row");
        noSuchRow(QualityGate::groupSize);
    }

    private static String sizes(QualityGate gate) {
        StringBuilder text = new StringBuilder();
        for (int position = 0; position < gate.rowCount(); position++) {
            text.append(position == 0 ? "" : " ").append(gate.groupSize(gate.rowAt(position)));
        }
        return text.toString();
    }
}
