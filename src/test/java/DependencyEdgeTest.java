import java.util.NoSuchElementException;

/** Promises 30 to 38 at their bounds: dependencies, minimal sets, closures, keys and errors. */
final class DependencyEdgeTest {
    private static final int M = Gates.M;
    private final Check check;

    DependencyEdgeTest(Check check) {
        this.check = check;
    }

    void run() {
        // what is told in two ways is asked in the first one by the name of the smaller promise
        for (int promise = 30; promise <= 31; promise++) {
            determinesWrong(promise);
            determinesAtBounds(promise);
            determinesByRows(promise);
        }
        for (int promise = 32; promise <= 33; promise++) {
            minimalCounts(promise);
        }
        minimalAt();
        closureOf();
        isKey();
        smallestKey();
        errorOf();
    }

    private void minimalAt() {
        minimalColumnsAndPositions();
        minimalInEmptyTable();
        noMinimalSet();
        minimalNoColumnAndNoPosition();
        fewerColumnsThenSmallerNumbers();
        mostMinimalSets();
    }

    private void closureOf() {
        closureSets();
        closureInEmptyTable();
        closureOfWholeSet();
        closureOfEmptySet();
        closureIsOneStep();
    }

    private void isKey() {
        keySets();
        keyInSmallTables();
        keyInFullTable();
        keyOfEqualRows();
        keyWithMissing();
    }

    private void smallestKey() {
        noKey();
        emptySetIsKey();
        wholeSetIsKey();
        fewestColumnsThenSmallestNumber();
    }

    private void errorOf() {
        errorColumnsAndSets();
        errorColumnInSet();
        errorExceptionsInOrder();
        errorInEmptyTable();
        errorInFullTable();
        errorInClasses();
        errorIsZeroWhereDetermined();
    }

    // ---- promises 30 and 31

    private static boolean told(int promise, QualityGate gate, int set, int column) {
        return promise == 30 ? gate.determines(set, column) : gate.determinesByPairs(set, column);
    }

    private void determinesWrong(int promise) {
        String start = "promise " + promise + ": ";
        QualityGate gate = Gates.full();
        check.test(start + "the first to the last set, and those beside them");
        check.dueFromTo(0, 31, IllegalArgumentException.class, set -> told(promise, gate, set, 0));
        check.test(start + "the first to the last column, and those beside them");
        check.dueFromTo(0, 4, IndexOutOfBoundsException.class, column -> told(promise, gate, 0, column));
        check.dueFromTo(0, 4, IndexOutOfBoundsException.class, column -> told(promise, gate, 31, column));
        check.test(start + "a wrong set comes before no such column");
        check.dueThrow(IllegalArgumentException.class, () -> told(promise, gate, 32, 5));
        check.dueThrow(IllegalArgumentException.class, () -> told(promise, gate, -1, -1));
        check.test(start + "wrong inputs in an empty table");
        check.dueThrow(IllegalArgumentException.class, () -> told(promise, new QualityGate(), 32, 0));
        check.dueThrow(IndexOutOfBoundsException.class, () -> told(promise, new QualityGate(), 0, 5));
    }

    private void determinesAtBounds(int promise) {
        String start = "promise " + promise + ": ";
        QualityGate empty = new QualityGate();
        QualityGate one = Gates.withColumn(1);
        for (int column = 0; column < 5; column++) {
            check.test(start + "each set without the column in an empty table and in one of one row");
            for (int set = 0; set < 32; set++) {
                boolean isInSet = (set >> column & 1) == 1;
                check.due(!isInSet, told(promise, empty, set, column));
                check.due(!isInSet, told(promise, one, set, column));
            }
            check.test(start + "the column belongs to the set");
            check.due(false, told(promise, Gates.full(), 1 << column, column));
            check.due(false, told(promise, Gates.full(), 31, column));
        }
        check.test(start + "the empty set");
        check.due(false, told(promise, Gates.full(), 0, 0));
        check.due(true, told(promise, Gates.full(), 0, 1));
        check.test(start + "staged rows do not count");
        one.stage(2, 0, 0, 0, 0);
        check.due(true, told(promise, one, 0, 0));
    }

    private void determinesByRows(int promise) {
        String start = "promise " + promise + ": ";
        check.test(start + "the last two rows of a full table alone");
        QualityGate gate = Gates.full();
        check.due(true, told(promise, gate, 1, 1));
        gate.setValue(11, 1, 1);
        check.due(true, told(promise, gate, 1, 1));
        gate.setValue(11, 0, 10);
        check.due(false, told(promise, gate, 1, 1));
        check.test(start + "two MISSING are equal, in the set and in the column");
        QualityGate missing = Gates.with(Gates.row(M, M, 0, 0, 0), Gates.row(M, M, 0, 0, 0));
        check.due(true, told(promise, missing, 1, 1));
        check.due(true, told(promise, missing, 0, 1));
        missing.setValue(1, 1, 0);
        check.due(false, told(promise, missing, 1, 1));
        check.due(true, told(promise, missing, 2, 0));
        check.test(start + "all columns but one");
        QualityGate last = Gates.with(Gates.row(1, 1, 1, 1, 1), Gates.row(1, 1, 1, 1, 2));
        check.due(false, told(promise, last, 15, 4));
        check.due(true, told(promise, last, 23, 3));
    }

    // ---- promises 32 to 34

    private static int counted(int promise, QualityGate gate, int column) {
        return promise == 32 ? gate.minimalCount(column) : gate.minimalCountByTrying(column);
    }

    private void minimalCounts(int promise) {
        String start = "promise " + promise + ": ";
        check.test(start + "the first to the last column, and those beside them");
        check.dueFromTo(0, 4, IndexOutOfBoundsException.class, column -> counted(promise, Gates.full(), column));
        check.dueThrow(IndexOutOfBoundsException.class, () -> counted(promise, new QualityGate(), 5));
        check.test(start + "the empty set alone, in an empty table, in one of one row and for equal values");
        check.due(1, counted(promise, new QualityGate(), 4));
        check.due(1, counted(promise, Gates.withColumn(1), 0));
        check.due(1, counted(promise, Gates.full(), 1));
        check.test(start + "no set");
        check.due(0, counted(promise, Gates.full(), 0));
        check.test(start + "all columns but one");
        QualityGate whole = onlyByAllOthers();
        check.due(1, counted(promise, whole, 4));
        check.due(0, counted(promise, onlyByAllOthersBroken(), 4));
        check.test(start + "as many sets as there can be, six of two columns each");
        check.due(6, counted(promise, byEachPair(), 4));
        check.due(4, counted(promise, byEachPair(), 0));
        check.test(start + "staged rows do not count");
        QualityGate staged = Gates.withColumn(1);
        staged.stage(2, 0, 0, 0, 0);
        check.due(1, counted(promise, staged, 0));
        staged.commit();
        check.due(0, counted(promise, staged, 0));
    }

    /** Column 4 is determined by the other four columns together and by no three of them. */
    private static QualityGate onlyByAllOthers() {
        return Gates.with(Gates.row(0, 0, 0, 0, 0), Gates.row(1, 0, 0, 0, 1), Gates.row(0, 1, 0, 0, 2),
                Gates.row(0, 0, 1, 0, 3), Gates.row(0, 0, 0, 1, 4));
    }

    private static QualityGate onlyByAllOthersBroken() {
        QualityGate gate = onlyByAllOthers();
        Gates.add(gate, Gates.row(0, 0, 0, 0, 9));
        return gate;
    }

    /** No two of the nine rows are equal in two of the columns 0 to 3, and column 4 is different in each row. */
    private static QualityGate byEachPair() {
        QualityGate gate = new QualityGate();
        for (int row = 0; row < 9; row++) {
            int x = row / 3;
            int y = row % 3;
            Gates.add(gate, Gates.row(x, y, (x + y) % 3, (x + 2 * y) % 3, row));
        }
        return gate;
    }

    private void minimalColumnsAndPositions() {
        check.test("promise 34: the first to the last column, and those beside them");
        check.dueFromTo(0, 4, IndexOutOfBoundsException.class, column -> new QualityGate().minimalAt(column, 0));
        check.test("promise 34: the first to the last position, and those beside them");
        check.dueFromTo(0, 5, IndexOutOfBoundsException.class, position -> byEachPair().minimalAt(4, position));
        check.dueFromTo(0, 0, IndexOutOfBoundsException.class, position -> onlyByAllOthers().minimalAt(4, position));
    }

    private void minimalInEmptyTable() {
        check.test("promise 34: the empty set in an empty table");
        QualityGate gate = new QualityGate();
        check.due(0, gate.minimalAt(3, 0));
        check.dueThrow(IndexOutOfBoundsException.class, () -> gate.minimalAt(3, 1));
        check.dueThrow(IndexOutOfBoundsException.class, () -> gate.minimalAt(3, -1));
    }

    private void noMinimalSet() {
        check.test("promise 34: there is no position where no set determines the column");
        for (int position : new int[] {-1, 0, 1, Integer.MIN_VALUE, Integer.MAX_VALUE}) {
            check.dueThrow(IndexOutOfBoundsException.class, () -> Gates.full().minimalAt(0, position));
        }
    }

    private void minimalNoColumnAndNoPosition() {
        check.test("promise 34: neither the column nor the position");
        check.dueThrow(IndexOutOfBoundsException.class, () -> Gates.full().minimalAt(5, -1));
        check.dueThrow(IndexOutOfBoundsException.class, () -> Gates.full().minimalAt(-1, 99));
    }

    private void fewerColumnsThenSmallerNumbers() {
        check.test("promise 34: fewer columns come before smaller numbers, and these before greater ones");
        QualityGate gate = byEachPair();
        int[] sets = {16, 6, 10, 12};
        for (int position = 0; position < 4; position++) {
            check.due(sets[position], gate.minimalAt(0, position));
        }
        check.dueThrow(IndexOutOfBoundsException.class, () -> gate.minimalAt(0, 4));
    }

    private void mostMinimalSets() {
        check.test("promise 34: six sets of two columns each, by their numbers");
        int[] sets = {3, 5, 6, 9, 10, 12};
        for (int position = 0; position < 6; position++) {
            check.due(sets[position], byEachPair().minimalAt(4, position));
        }
        check.due(15, onlyByAllOthers().minimalAt(4, 0));
    }

    // ---- promise 35

    private void closureSets() {
        check.test("promise 35: the first to the last set, and those beside them");
        check.dueFromTo(0, 31, IllegalArgumentException.class, Gates.full()::closureOf);
        check.dueFromTo(0, 31, IllegalArgumentException.class, new QualityGate()::closureOf);
    }

    private void closureInEmptyTable() {
        check.test("promise 35: all columns in an empty table and in one of one row");
        for (int set = 0; set < 32; set++) {
            check.due(31, new QualityGate().closureOf(set));
            check.due(31, Gates.with(Gates.row(1, M, 3, 4, 5)).closureOf(set));
        }
    }

    private void closureOfWholeSet() {
        check.test("promise 35: the set of all columns, though no row differs from another one");
        check.due(31, Gates.withColumn(1, 1).closureOf(31));
        check.due(31, onlyByAllOthersBroken().closureOf(31));
    }

    private void closureOfEmptySet() {
        check.test("promise 35: the empty set determines the columns of equal values, MISSING ones too");
        check.due(30, Gates.full().closureOf(0));
        QualityGate gate = Gates.with(Gates.row(1, M, 1, M, 1), Gates.row(2, M, 2, 1, 1));
        check.due(18, gate.closureOf(0));
    }

    private void closureIsOneStep() {
        check.test("promise 35: a set that determines no other column");
        check.due(15, onlyByAllOthersBroken().closureOf(15));
        check.due(1, byEachPair().closureOf(1));
        check.due(31, byEachPair().closureOf(3));
        check.due(31, byEachPair().closureOf(16));
    }

    // ---- promises 36 and 37

    private void keySets() {
        check.test("promise 36: the first to the last set, and those beside them");
        check.dueFromTo(0, 31, IllegalArgumentException.class, Gates.full()::isKey);
        check.dueFromTo(0, 31, IllegalArgumentException.class, new QualityGate()::isKey);
    }

    private void keyInSmallTables() {
        check.test("promise 36: each set in an empty table and in one of one row, the empty set too");
        for (int set = 0; set < 32; set++) {
            check.due(true, new QualityGate().isKey(set));
            check.due(true, Gates.withColumn(M).isKey(set));
        }
        check.test("promise 36: the empty set is no key of two rows");
        check.due(false, Gates.withColumn(1, 2).isKey(0));
    }

    private void keyInFullTable() {
        check.test("promise 36: a full table of which two rows are equal in the set or not");
        QualityGate gate = Gates.full();
        check.due(true, gate.isKey(1));
        check.due(false, gate.isKey(30));
        gate.setValue(11, 0, 10);
        check.due(false, gate.isKey(1));
        gate.setValue(11, 0, 0);
        check.due(false, gate.isKey(1));
        gate.setValue(11, 4, 1);
        check.due(true, gate.isKey(17));
    }

    private void keyOfEqualRows() {
        check.test("promise 36: no set is a key of equal rows");
        QualityGate gate = Gates.withColumn(1, 1);
        for (int set = 0; set < 32; set++) {
            check.due(false, gate.isKey(set));
        }
    }

    private void keyWithMissing() {
        check.test("promise 36: two MISSING are equal, a number and MISSING are not");
        QualityGate gate = Gates.with(Gates.row(M, M, 0, 0, 0), Gates.row(M, 99, 0, 0, 0));
        check.due(false, gate.isKey(1));
        check.due(true, gate.isKey(2));
    }

    private void noKey() {
        check.test("promise 37: no set is a key");
        QualityGate gate = Gates.full();
        gate.setValue(11, 0, 0);
        check.dueThrow(NoSuchElementException.class, gate::smallestKey);
        gate.removeRow(0);
        check.due(1, gate.smallestKey());
    }

    private void emptySetIsKey() {
        check.test("promise 37: the empty set in an empty table and in one of one row");
        QualityGate gate = new QualityGate();
        check.due(0, gate.smallestKey());
        Gates.stageColumn(gate, 1, 1);
        check.due(0, gate.smallestKey());
        check.due(0, Gates.withColumn(1).smallestKey());
        check.due(1, Gates.withColumn(1, 2).smallestKey());
    }

    private void wholeSetIsKey() {
        check.test("promise 37: the set of all columns");
        QualityGate gate = onlyByAllOthers();
        check.due(16, gate.smallestKey());
        for (int id = 0; id < 5; id++) {
            gate.setValue(id, 4, 0);
        }
        check.due(15, gate.smallestKey());
        Gates.add(gate, Gates.row(0, 0, 0, 0, 1));
        check.due(31, gate.smallestKey());
        Gates.add(gate, Gates.row(0, 0, 0, 0, 1));
        check.dueThrow(NoSuchElementException.class, gate::smallestKey);
    }

    private void fewestColumnsThenSmallestNumber() {
        check.test("promise 37: fewer columns come before a smaller number, and this before a greater one");
        QualityGate gate = byEachPair();
        check.due(16, gate.smallestKey());
        for (int id = 0; id < 9; id++) {
            gate.setValue(id, 4, 0);
        }
        check.due(3, gate.smallestKey());
        // now row 1 is as row 4 in the columns 0 and 1, and as row 3 in the columns 0 and 2
        gate.setValue(1, 0, 1);
        check.due(6, gate.smallestKey());
    }

    // ---- promise 38

    private void errorColumnsAndSets() {
        check.test("promise 38: the first to the last column, and those beside them");
        check.dueFromTo(0, 4, IndexOutOfBoundsException.class, column -> Gates.full().errorOf(0, column));
        check.test("promise 38: the first to the last set without the column, and those beside them");
        for (int set = 0; set < 32; set++) {
            for (int column = 0; column < 5; column++) {
                int bits = set;
                int at = column;
                boolean isInSet = (set >> column & 1) == 1;
                Object outcome = Check.ownOutcome(() -> Gates.withColumn(1).errorOf(bits, at));
                check.due(isInSet ? "throws.IllegalArgumentException" : (Object) 0, outcome);
            }
        }
        for (int wrong : new int[] {-1, -2, 32, 62, Integer.MIN_VALUE, Integer.MAX_VALUE}) {
            check.dueThrow(IllegalArgumentException.class, () -> Gates.full().errorOf(wrong, 0));
        }
    }

    private void errorColumnInSet() {
        check.test("promise 38: the column belongs to the set, in an empty table too");
        check.dueThrow(IllegalArgumentException.class, () -> new QualityGate().errorOf(31, 0));
        check.dueThrow(IllegalArgumentException.class, () -> new QualityGate().errorOf(16, 4));
    }

    private void errorExceptionsInOrder() {
        check.test("promise 38: no such column comes before a wrong set");
        check.dueThrow(IndexOutOfBoundsException.class, () -> Gates.full().errorOf(32, 5));
        check.dueThrow(IndexOutOfBoundsException.class, () -> Gates.full().errorOf(-1, -1));
    }

    private void errorInEmptyTable() {
        check.test("promise 38: no row of an empty table or of one of one row");
        check.due(0, new QualityGate().errorOf(0, 0));
        check.due(0, new QualityGate().errorOf(30, 0));
        check.due(0, Gates.withColumn(M).errorOf(0, 0));
    }

    private void errorInFullTable() {
        check.test("promise 38: all rows but one of a full table, and none of it");
        QualityGate gate = Gates.full();
        check.due(11, gate.errorOf(0, 0));
        check.due(11, gate.errorOf(30, 0));
        check.due(0, gate.errorOf(1, 4));
        gate.setValue(11, 0, 0);
        check.due(10, gate.errorOf(0, 0));
    }

    private void errorInClasses() {
        check.test("promise 38: the fewest rows of each class, of which the greatest part stays");
        QualityGate gate = Gates.with(Gates.row(1, 1, 0, 0, 0), Gates.row(2, 4, 0, 0, 0), Gates.row(1, 2, 0, 0, 0),
                Gates.row(2, M, 0, 0, 0), Gates.row(1, 2, 0, 0, 0), Gates.row(2, M, 0, 0, 0), Gates.row(M, 1, 0, 0, 0),
                Gates.row(M, 2, 0, 0, 0));
        check.due(3, gate.errorOf(1, 1));
        check.due(5, gate.errorOf(0, 1));
        gate.removeRow(0);
        check.due(2, gate.errorOf(1, 1));
    }

    private void errorIsZeroWhereDetermined() {
        check.test("promise 38: no row where the set determines the column, and some where it does not");
        for (QualityGate gate : new QualityGate[] {byEachPair(), onlyByAllOthersBroken(), Gates.full()}) {
            for (int set = 0; set < 16; set++) {
                check.due(gate.determines(set, 4), gate.errorOf(set, 4) == 0);
            }
        }
    }
}
