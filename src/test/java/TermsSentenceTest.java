import java.util.NoSuchElementException;

/** The sentences of "What it is" and of "Terms" about tables, sets, rules and batches. */
final class TermsSentenceTest {
    private static final int M = Gates.M;
    private static final int[] SOME_VALUES = {-99, -98, -1, 0, 1, 98, 99, M};

    private final Check check;
    private final Sentences document;

    TermsSentenceTest(Check check, Sentences document) {
        this.check = check;
        this.document = document;
    }

    void run() {
        document.section("What it is");
        aGate();
        lastCall();
        document.section("Terms");
        columnsAndRows();
        ids();
        values();
        equalValues();
        presentValues();
        setNumbers();
        rowsEqualInSet();
        ruleNumbers();
        strictRules();
        rowRules();
        pairRules();
        badRows();
        conflictingRows();
        indices();
        allOrNone();
        rowsAndRulesInOrder();
        firstRule();
        otherRow();
    }

    private void aGate() {
        document.says("A quality gate for a table: rows that come in batches and are checked by strict rules, rules"
                + " over columns, functional dependencies that are found in the data, conflicts between rows, the"
                + " fewest rows to remove so that all rules hold, outliers, and the drift of the values against a"
                + " saved profile.");
        QualityGate gate = Gates.with(Gates.row(1, 4, 10, 0, 0), Gates.row(2, 4, 10, 0, 0), Gates.row(3, 5, 11, 0, 0));
        check.due(3, gate.saveProfile());
        check.due(0, gate.addUnique(0, true));
        gate.stage(3, 5, 11, 0, 0);
        check.dueThrow(UnsupportedOperationException.class, gate::commit);
        check.due(1, gate.discard());
        check.due(true, gate.determines(2, 2));
        gate.addUnique(1, false);
        check.due(true, gate.conflict(0, 1));
        check.due(1, gate.fewestRemovals());
        gate.setValue(2, 2, 90);
        check.due(1, gate.outliers(2));
        check.due(333, gate.drift(2));
        check.due(1, gate.repair());
        check.due(0, gate.fewestRemovals());
    }

    private void lastCall() {
        document.says("An object is used for at most 512 calls after it has been made; what later calls answer is"
                + " free.");
        QualityGate gate = new QualityGate();
        check.due(0, gate.addRange(0, 50, 60, false));
        int calls = 1;
        int ids = 0;
        // as many rows as can be added: each round takes nine calls, and the last of them is the 505th
        while (calls + 9 <= 512) {
            for (int row = 1; row <= 6; row++) {
                check.due(row, gate.stage(row, 0, 0, 0, M));
            }
            check.due(6, gate.commit());
            check.due(ids + 5, gate.rowAt(5));
            check.due(6, gate.repair());
            ids += 6;
            calls += 9;
        }
        check.due(505, calls);
        check.due(1, gate.stage(51, 2, 3, 4, 5));
        check.due(1, gate.commit());
        check.due(ids, gate.rowAt(0));
        check.due(51, gate.valueAt(336, 0));
        check.due(true, gate.isConsistent());
        check.due(0, gate.repair());
        check.due(1, gate.rowCount());
    }

    private void columnsAndRows() {
        document.says("The table has 5 columns, numbered from 0 to 4, and at most 12 rows.");
        QualityGate gate = Gates.with(Gates.row(10, 11, 12, 13, 14));
        check.due("10 11 12 13 14", Gates.values(gate, 0));
        check.dueFromTo(0, 4, IndexOutOfBoundsException.class, column -> gate.valueAt(0, column));
        QualityGate full = new QualityGate();
        for (int rows = 1; rows <= 12; rows++) {
            full.stage(rows, 0, 0, 0, 0);
            check.due(rows, full.commit());
        }
        full.stage(13, 0, 0, 0, 0);
        check.dueThrow(IllegalStateException.class, full::commit);
        check.due(12, full.rowCount());
    }

    private void ids() {
        document.says("Rows have ids, which are given in the order in which the rows are added, from 0 on; an id is"
                + " never used again.");
        QualityGate gate = Gates.withColumn(30, 10, 20);
        check.due("0 1 2", Gates.ids(gate));
        check.due("30 10 20", gate.valueAt(0, 0) + " " + gate.valueAt(1, 0) + " " + gate.valueAt(2, 0));
        gate.removeRow(2);
        gate.removeRow(0);
        Gates.stageColumn(gate, 8, 7);
        check.due(3, gate.commit());
        check.due("1 3 4", Gates.ids(gate));
        check.due("8 7", gate.valueAt(3, 0) + " " + gate.valueAt(4, 0));
        gate.addRange(0, 50, 60, false);
        check.due(3, gate.repair());
        gate.stage(55, 0, 0, 0, 0);
        gate.commit();
        check.due("5", Gates.ids(gate));
        for (int gone = 0; gone < 5; gone++) {
            int id = gone;
            check.dueThrow(NoSuchElementException.class, () -> gate.valueAt(id, 0));
        }
    }

    private void values() {
        document.says("A row has a value in each column: a number from -99 to 99, or MISSING.");
        QualityGate gate = Gates.with(Gates.row(0, 0, 0, 0, 0));
        for (int at = 0; at < 5; at++) {
            int column = at;
            check.dueFromTo(-99, M, IllegalArgumentException.class, value -> staged(column, value));
            for (int value : SOME_VALUES) {
                QualityGate added = staged(column, value);
                added.commit();
                check.due(value, added.valueAt(0, column));
                gate.setValue(0, column, value);
                check.due(value, gate.valueAt(0, column));
            }
        }
    }

    /** A gate that is given one row, with a value in a column and 0 elsewhere. */
    private static QualityGate staged(int column, int value) {
        int[] row = new int[5];
        row[column] = value;
        QualityGate gate = new QualityGate();
        gate.stage(row[0], row[1], row[2], row[3], row[4]);
        return gate;
    }

    private void equalValues() {
        document.says("Two values are equal if they are the same number or both MISSING.");
        for (int value : SOME_VALUES) {
            for (int other : SOME_VALUES) {
                QualityGate gate = Gates.withColumn(value, other);
                gate.addDependency(0, 0, false);
                check.due(value == other, gate.determines(0, 0));
                check.due(value == other, gate.determinesByPairs(0, 0));
                check.due(value != other, gate.isKey(1));
                check.due(value != other, gate.conflict(0, 1));
                check.due(value == other ? 0 : 1, gate.errorOf(0, 0));
            }
        }
    }

    private void presentValues() {
        document.says("The value MISSING is not present; all other values are.");
        QualityGate gate = Gates.withColumn(M);
        gate.addRequired(0, false);
        check.due(true, gate.isBad(0));
        check.dueThrow(NoSuchElementException.class, () -> gate.medianOf(0));
        check.dueThrow(ArithmeticException.class, () -> gate.meanOf(0));
        check.due(1.0f, gate.missingShare(0));
        for (int value = -99; value <= 99; value++) {
            QualityGate present = Gates.withColumn(value);
            present.addRequired(0, false);
            check.due(false, present.isBad(0));
            check.due(value, present.medianOf(0));
            check.due(0.0f, present.missingShare(0));
        }
    }

    private void setNumbers() {
        document.says("A set of columns is a number from 0 to 31: column k belongs to the set if bit k of the number,"
                + " with the value 2 to the power of k, is 1.");
        check.dueFromTo(0, 31, IllegalArgumentException.class, set -> Gates.full().isKey(set));
        int power = 1;
        for (int k = 0; k < 5; k++) {
            QualityGate gate = Gates.with(Gates.row(0, 0, 0, 0, 0), Gates.row(0, 0, 0, 0, 0));
            gate.setValue(1, k, 1);
            for (int set = 0; set < 32; set++) {
                check.due(set / power % 2 == 1, gate.isKey(set));
            }
            check.due(31 - power, gate.closureOf(0));
            check.due(power, gate.smallestKey());
            power *= 2;
        }
    }

    private void rowsEqualInSet() {
        document.says("Two rows are equal in a set if their values are equal in each of its columns.");
        for (int different = 0; different < 32; different++) {
            QualityGate gate = Gates.with(Gates.row(M, 7, M, -7, 0), Gates.row(M, 7, M, -7, 0));
            for (int column = 0; column < 5; column++) {
                if ((different >> column & 1) == 1) {
                    gate.setValue(1, column, column + 20);
                }
            }
            for (int set = 0; set < 32; set++) {
                boolean isEqual = (set & different) == 0;
                check.due(!isEqual, gate.isKey(set));
            }
        }
    }

    private void ruleNumbers() {
        document.says("At most 10 rules can be added; they are numbered from 0 in the order in which they are added,"
                + " and a dropped rule keeps its number, but does not count any more.");
        QualityGate gate = Gates.withColumn(5, 5);
        for (int round = 0; round < 2; round++) {
            check.due(5 * round, gate.addRange(0, 9, 9, true));
            check.due(5 * round + 1, gate.addRequired(0, true));
            check.due(5 * round + 2, gate.addOrder(0, 1, true));
            check.due(5 * round + 3, gate.addUnique(0, true));
            check.due(5 * round + 4, gate.addDependency(1, 1, true));
            gate.dropRule(5 * round);
        }
        noMoreRules(gate);
        check.due(2, gate.violations(2));
        check.due(1, gate.violations(3));
        check.dueThrow(IllegalStateException.class, () -> gate.violations(0));
        for (int rule : new int[] {2, 3, 7, 8}) {
            check.due(true, gate.isBad(0) || gate.conflict(0, 1));
            gate.dropRule(rule);
        }
        check.due(false, gate.isBad(0) || gate.conflict(0, 1));
        check.due(0, gate.fewestRemovals());
        noMoreRules(gate);
        gate.stage(5, 0, 0, 0, 0);
        check.due(3, gate.commit());
    }

    private void noMoreRules(QualityGate gate) {
        check.dueThrow(IllegalStateException.class, () -> gate.addRange(0, 9, 9, false));
        check.dueThrow(IllegalStateException.class, () -> gate.addRequired(0, false));
        check.dueThrow(IllegalStateException.class, () -> gate.addOrder(0, 1, false));
        check.dueThrow(IllegalStateException.class, () -> gate.addUnique(0, false));
        check.dueThrow(IllegalStateException.class, () -> gate.addDependency(1, 1, false));
        check.dueThrow(IndexOutOfBoundsException.class, () -> gate.violations(10));
    }

    private void strictRules() {
        document.says("A rule is strict or not.");
        for (int kind = 0; kind < 5; kind++) {
            for (boolean isStrict : new boolean[] {false, true}) {
                QualityGate gate = Gates.withColumn(5);
                check.due(0, added(gate, kind, isStrict));
                gate.stage(5, M, 0, 0, 1);
                check.due(isStrict ? "throws.UnsupportedOperationException" : (Object) 2,
                        Check.ownOutcome(gate::commit));
                if (!isStrict) {
                    check.due(1, gate.violations(0));
                    check.due(1, gate.fewestRemovals());
                }
            }
        }
    }

    /** Adds a rule that the row 5 0 0 0 0 keeps, and which the row 5 MISSING 0 0 1 breaks or by which both conflict. */
    private static int added(QualityGate gate, int kind, boolean isStrict) {
        return switch (kind) {
            case 0 -> gate.addRange(4, -1, 0, isStrict);
            case 1 -> gate.addRequired(1, isStrict);
            case 2 -> gate.addOrder(4, 3, isStrict);
            case 3 -> gate.addUnique(0, isStrict);
            default -> gate.addDependency(1, 4, isStrict);
        };
    }

    private void rowRules() {
        document.says("There are row rules, which a row breaks or not: a range rule, which is broken if the value in"
                + " its column is present and less than the lower bound or greater than the upper bound; a required"
                + " rule, which is broken if the value in its column is MISSING; and an order rule, which is broken"
                + " if the values in both of its columns are present and the value in the first one is greater than"
                + " the value in the second one.");
        for (int value = -99; value <= M; value++) {
            QualityGate gate = Gates.with(Gates.row(M, 3, 9, value, M));
            gate.addRange(3, -20, 41, false);
            gate.addRequired(3, false);
            gate.addOrder(3, 1, false);
            gate.addOrder(1, 3, false);
            gate.addOrder(3, 0, false);
            gate.addOrder(4, 3, false);
            boolean isPresent = value != M;
            check.due(isPresent && (value < -20 || value > 41) ? 1 : 0, gate.violations(0));
            check.due(isPresent ? 0 : 1, gate.violations(1));
            check.due(isPresent && value > 3 ? 1 : 0, gate.violations(2));
            check.due(isPresent && 3 > value ? 1 : 0, gate.violations(3));
            check.due(0, gate.violations(4));
            check.due(0, gate.violations(5));
        }
    }

    private void pairRules() {
        document.says("There are pair rules, by which two different rows conflict or not: a unique rule, by which"
                + " they conflict if their values in its column are present and equal; and a dependency rule, by"
                + " which they conflict if they are equal in its set and not equal in its column.");
        for (int value : SOME_VALUES) {
            for (int other : SOME_VALUES) {
                QualityGate gate = Gates.with(Gates.row(0, 8, value, M, 1), Gates.row(0, 9, other, M, 2));
                gate.addUnique(2, false);
                gate.addDependency(4, 4, false);
                gate.addDependency(9, 2, false);
                gate.addDependency(11, 2, false);
                check.due(value == other && value != M ? 1 : 0, gate.violations(0));
                check.due(value == other ? 1 : 0, gate.violations(1));
                check.due(value != other ? 1 : 0, gate.violations(2));
                check.due(0, gate.violations(3));
            }
        }
    }

    private void badRows() {
        document.says("A row is bad if it breaks at least one row rule.");
        QualityGate gate = Gates.with(Gates.row(1, 1, 1, 1, 1), Gates.row(7, 1, 1, 1, 1), Gates.row(1, M, 1, 1, 1),
                Gates.row(1, 1, 2, 1, 1), Gates.row(7, M, 2, 1, 1));
        gate.addRange(0, 0, 5, false);
        gate.addRequired(1, true);
        gate.addOrder(2, 3, false);
        gate.addUnique(3, true);
        for (int id = 0; id < 5; id++) {
            check.due(id != 0, gate.isBad(id));
        }
        gate.dropRule(0);
        gate.dropRule(2);
        for (int id = 0; id < 5; id++) {
            check.due(id == 2 || id == 4, gate.isBad(id));
        }
    }

    private void conflictingRows() {
        document.says("Two rows conflict if they conflict by at least one pair rule.");
        QualityGate gate = Gates.with(Gates.row(1, 1, 1, 0, 0), Gates.row(1, 2, 2, 0, 0), Gates.row(2, 3, 1, 0, 0),
                Gates.row(3, 4, 3, 1, 5));
        gate.addUnique(0, true);
        gate.addUnique(2, false);
        gate.addDependency(8, 0, false);
        gate.addRange(4, 0, 0, false);
        check.due("true true true", gate.conflict(0, 1) + " " + gate.conflict(0, 2) + " " + gate.conflict(1, 2));
        check.due("false false", gate.conflict(0, 3) + " " + gate.conflict(3, 2));
        gate.dropRule(2);
        check.due("true true false", gate.conflict(0, 1) + " " + gate.conflict(0, 2) + " " + gate.conflict(1, 2));
    }

    private void indices() {
        document.says("Rows are staged first; at most 6 rows are staged, with the indices 0, 1, 2 and so on.");
        QualityGate gate = new QualityGate();
        gate.addUnique(0, true);
        for (int index = 0; index < 6; index++) {
            check.due(index + 1, gate.stage(index, 0, 0, 0, 0));
            check.due(0, gate.rowCount());
        }
        check.dueThrow(IllegalStateException.class, () -> gate.stage(6, 0, 0, 0, 0));
        check.due(6, gate.commit());
        for (int index = 0; index < 6; index++) {
            Gates.stageColumn(gate, 20, 21, 22, 23, 24);
            gate.discard();
            for (int staged = 0; staged < 6; staged++) {
                gate.stage(staged == index ? 3 : 30 + staged, 0, 0, 0, 0);
            }
            check.dueThrow(UnsupportedOperationException.class, gate::commit);
            check.due(index, gate.rejectedRow());
            gate.discard();
        }
    }

    private void allOrNone() {
        document.says("A commit adds all staged rows to the table, in the order of their indices, or none of them.");
        QualityGate gate = Gates.withColumn(50);
        gate.addUnique(0, true);
        Gates.stageColumn(gate, 9, 3, 7, 5);
        check.due(5, gate.commit());
        check.due("0 1 2 3 4", Gates.ids(gate));
        int[] want = {50, 9, 3, 7, 5};
        for (int id = 0; id < 5; id++) {
            check.due(want[id], gate.valueAt(id, 0));
        }
        for (int wrong = 0; wrong < 4; wrong++) {
            for (int index = 0; index < 4; index++) {
                gate.stage(index == wrong ? 50 : 60 + index, 0, 0, 0, 0);
            }
            check.dueThrow(UnsupportedOperationException.class, gate::commit);
            check.due("0 1 2 3 4", Gates.ids(gate));
            check.due(4, gate.discard());
        }
    }

    private void rowsAndRulesInOrder() {
        document.says("It takes the staged rows one after the other and, for each of them, the strict rules in the"
                + " order of their numbers.");
        QualityGate gate = new QualityGate();
        gate.addRequired(0, false);
        gate.addRange(1, 0, 9, true);
        gate.addUnique(2, true);
        gate.addRequired(3, true);
        gate.stage(M, 5, 1, 0, 0);
        gate.stage(M, 5, 2, M, 0);
        gate.stage(M, 99, 1, M, 0);
        dueRejectedAt(gate, 1, 3);
        gate.dropRule(3);
        dueRejectedAt(gate, 2, 1);
        gate.dropRule(1);
        dueRejectedAt(gate, 2, 2);
        gate.dropRule(2);
        check.due(3, gate.commit());
    }

    private void dueRejectedAt(QualityGate gate, int row, int rule) {
        check.dueThrow(UnsupportedOperationException.class, gate::commit);
        check.due(row, gate.rejectedRow());
        check.due(rule, gate.rejectedRule());
    }

    private void firstRule() {
        document.says("The commit is rejected at the first rule that the row breaks, if it is a row rule, or by which"
                + " it conflicts with a row of the table or with a staged row with a smaller index, if it is a pair"
                + " rule.");
        QualityGate gate = Gates.with(Gates.row(1, 0, 0, 0, 0), Gates.row(1, M, 0, 0, 0));
        gate.addUnique(0, true);
        gate.addRequired(1, true);
        gate.addDependency(4, 3, true);
        gate.addOrder(0, 4, true);
        gate.stage(2, 0, 5, 1, 9);
        check.due(3, gate.commit());
        gate.stage(3, 0, 5, 1, 9);
        gate.stage(9, 0, 5, 1, 8);
        dueRejectedAt(gate, 1, 3);
        gate.stage(4, M, 5, 2, 9);
        dueRejectedAt(gate, 1, 3);
        gate.discard();
        gate.stage(4, 0, 6, 2, 9);
        gate.stage(5, 0, 6, 3, 9);
        dueRejectedAt(gate, 1, 2);
        gate.discard();
        gate.stage(4, 0, 5, 2, 9);
        gate.stage(4, M, 7, 2, 9);
        dueRejectedAt(gate, 0, 2);
        gate.dropRule(2);
        dueRejectedAt(gate, 1, 0);
        gate.dropRule(0);
        dueRejectedAt(gate, 1, 1);
    }

    private void otherRow() {
        document.says("Of several such rows, the other row of the rejection is the one of the table with the smallest"
                + " id, or, if there is none in the table, the staged one with the smallest index.");
        QualityGate gate = Gates.with(Gates.row(1, 0, 0, 0, 0), Gates.row(2, 5, 0, 0, 0), Gates.row(3, 6, 0, 0, 0),
                Gates.row(4, 5, 0, 0, 0));
        gate.addDependency(2, 2, true);
        gate.stage(8, 7, 1, 0, 0);
        gate.stage(8, 5, 0, 0, 0);
        gate.stage(8, 5, 0, 0, 0);
        gate.stage(8, 5, 1, 0, 0);
        dueOther(gate, 3, 1, false);
        gate.removeRow(1);
        dueOther(gate, 3, 3, false);
        gate.removeRow(3);
        dueOther(gate, 3, 1, true);
    }

    private void dueOther(QualityGate gate, int row, int other, boolean isStaged) {
        dueRejectedAt(gate, row, 0);
        check.due(other, gate.rejectedOther());
        check.due(isStaged, gate.isOtherStaged());
    }
}
