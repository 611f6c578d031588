import java.util.NoSuchElementException;

/** The sentences of the promises 30 to 38. */
final class DependencySentenceTest {
    private static final int M = Gates.M;
    private static final int[] WRONG_SETS = {-1, -2, -31, -32, 32, 33, 63, 64, Integer.MIN_VALUE, Integer.MAX_VALUE};

    private final Check check;
    private final Sentences document;

    DependencySentenceTest(Check check, Sentences document) {
        this.check = check;
        this.document = document;
    }

    void run() {
        document.section("promise 30");
        document.says("Tells whether a set determines a column, found by partitions: the rows are divided into"
                + " classes of rows that are equal in the set, and each class is looked at.");
        determining(QualityGate::determines,
                "Returns whether the set determines the column; false if the column belongs to the set.");
        document.section("promise 31");
        document.says("Tells the same in a second way: by comparing all pairs of rows.");
        determining(QualityGate::determinesByPairs, "Returns the same.");
        document.section("promise 32");
        document.says("Returns the number of sets that are minimal for a column, found level by level: from the sets"
                + " with fewer columns to those with more columns.");
        counting(QualityGate::minimalCount, "Returns the number of sets.");
        document.section("promise 33");
        document.says("Returns the same number in a second way: by trying all sets and all sets that result from"
                + " them.");
        counting(QualityGate::minimalCountByTrying, "Returns the same number.");
        minimalAt();
        closureOf();
        isKey();
        smallestKey();
        errorOf();
    }

    /** A name, its town and its country, the day's number and a reading: 1 determines 2, and 0 with 3 determine 4. */
    private static QualityGate places() {
        return Gates.with(Gates.row(1, 10, 50, 1, 7), Gates.row(2, 10, 50, 1, 8), Gates.row(3, 11, 50, 1, 8),
                Gates.row(4, 12, M, 1, M), Gates.row(1, 10, 50, 2, 9), Gates.row(2, 10, 50, 2, 8),
                Gates.row(3, M, 51, 2, 7),
                Gates.row(4, 12, M, 2, 7));
    }

    private interface SetCall {
        Object on(QualityGate gate, int set);
    }

    /** The sets 0 to 31 are taken, and the numbers beside them are not, in a table with rows and in an empty one. */
    private void dueSets(SetCall call) {
        for (int set = 0; set < 32; set++) {
            int bits = set;
            check.due(false, Check.ownOutcome(() -> call.on(places(), bits)).toString().contains("throws"));
            check.due(false, Check.ownOutcome(() -> call.on(new QualityGate(), bits)).toString().contains("throws"));
        }
        for (int wrong : WRONG_SETS) {
            check.dueThrow(IllegalArgumentException.class, () -> call.on(places(), wrong));
            check.dueThrow(IllegalArgumentException.class, () -> call.on(new QualityGate(), wrong));
        }
    }

    private interface ColumnCall {
        Object on(QualityGate gate, int column);
    }

    private void noSuchColumn(ColumnCall call) {
        document.says("Throws `IndexOutOfBoundsException` if there is no such column");
        check.dueFromTo(0, 4, IndexOutOfBoundsException.class, column -> call.on(places(), column));
        check.dueFromTo(0, 4, IndexOutOfBoundsException.class, column -> call.on(new QualityGate(), column));
    }

    // ---- promises 30 and 31

    private interface Determining {
        boolean in(QualityGate gate, int set, int column);
    }

    private void determining(Determining determining, String answer) {
        QualityGate gate = places();
        check.due("true true false", determining.in(gate, 2, 2) + " " + determining.in(gate, 9, 4) + " "
                + determining.in(gate, 1, 4));
        check.due("false true false", determining.in(gate, 8, 4) + " " + determining.in(gate, 9, 1) + " "
                + determining.in(gate, 4, 1));
        gate.setValue(7, 2, 1);
        check.due(false, determining.in(gate, 2, 2));
        gate.removeRow(3);
        check.due(true, determining.in(gate, 2, 2));
        gate.stage(1, 10, M, 1, 1);
        check.due(true, determining.in(gate, 2, 2));
        gate.commit();
        check.due(false, determining.in(gate, 2, 2));

        document.says("- `set`: the set of columns");
        dueSets((each, set) -> determining.in(each, set, 0));
        for (int set = 0; set < 32; set++) {
            QualityGate pair = Gates.with(Gates.row(M, 2, 3, 4, 5), Gates.row(M, 2, 3, 4, 5));
            pair.setValue(1, 4, 6);
            pair.setValue(1, 2, M);
            check.due((set & 16) == 0 && (set & 4) != 0, determining.in(pair, set, 4));
        }

        document.says("- `column`: the column");
        QualityGate columns = places();
        StringBuilder text = new StringBuilder();
        for (int column = 0; column < 5; column++) {
            text.append(determining.in(columns, 1, column)).append(' ');
        }
        check.due("false false false false false ", text.toString());
        check.due("true true true", determining.in(columns, 9, 1) + " " + determining.in(columns, 9, 2) + " "
                + determining.in(columns, 9, 4));

        document.says(answer);
        for (int column = 0; column < 5; column++) {
            for (int set = 0; set < 32; set++) {
                boolean isInSet = (set >> column & 1) == 1;
                check.due(!isInSet, determining.in(new QualityGate(), set, column));
                check.due(!isInSet, determining.in(Gates.with(Gates.row(1, 2, M, 4, 5)), set, column));
                check.due(!isInSet, determining.in(Gates.with(Gates.row(1, 1, 1, 1, 1), Gates.row(1, 1, 1, 1, 1)), set,
                        column));
            }
        }

        document.says("Throws `IllegalArgumentException` if the set is not 0 to 31");
        dueSets((each, set) -> determining.in(each, set, 4));
        check.dueThrow(IllegalArgumentException.class, () -> determining.in(places(), 32, 5));
        noSuchColumn((each, column) -> determining.in(each, 31, column));
    }

    // ---- promises 32 to 34

    private interface Counting {
        int in(QualityGate gate, int column);
    }

    private static String counts(Counting counting, QualityGate gate) {
        StringBuilder text = new StringBuilder();
        for (int column = 0; column < 5; column++) {
            text.append(column == 0 ? "" : " ").append(counting.in(gate, column));
        }
        return text.toString();
    }

    /** Column 4 is determined by 0 with 1, by 0 with 2, by 1 with 2, and by 3. */
    private static QualityGate threePairs() {
        return Gates.with(Gates.row(0, 0, 0, 1, 1), Gates.row(0, 1, 1, 2, 2), Gates.row(1, 0, 1, 3, 3),
                Gates.row(1, 1, 0, 4, 4));
    }

    private void counting(Counting counting, String answer) {
        check.due("3 3 3 4 4", counts(counting, threePairs()));
        check.due("1 1 1 1 1", counts(counting, new QualityGate()));
        check.due("1 1 1 1 1", counts(counting, Gates.with(Gates.row(M, 1, M, 2, M))));
        check.due("0 1 1 1 1", counts(counting, Gates.full()));

        document.says("- `column`: the column");
        QualityGate gate = Gates.with(Gates.row(1, 5, 3, 9, M), Gates.row(2, 5, 3, 8, M), Gates.row(2, 6, 3, 9, M));
        check.due("1 1 1 1 1", counts(counting, gate));
        gate.setValue(2, 1, 5);
        check.due("0 1 1 0 1", counts(counting, gate));
        gate.setValue(2, 4, 1);
        check.due("1 1 1 1 1", counts(counting, gate));

        document.says(answer);
        QualityGate grown = new QualityGate();
        int[] want = {1, 1, 3, 4, 4};
        for (int rows = 0; rows <= 4; rows++) {
            check.due(want[rows], counting.in(grown, 4));
            Gates.add(grown, Gates.row(rows / 2, rows % 2, (rows / 2 + rows) % 2, rows, rows));
        }
        noSuchColumn(counting::in);
    }

    private static String minimal(QualityGate gate, int column) {
        StringBuilder text = new StringBuilder();
        for (int position = 0; position < gate.minimalCount(column); position++) {
            text.append(position == 0 ? "" : " ").append(gate.minimalAt(column, position));
        }
        return text.toString();
    }

    private void minimalAt() {
        document.section("promise 34");
        document.says("Returns a set that is minimal for a column.");
        check.due("0", minimal(new QualityGate(), 2));
        check.due("9 10", minimal(Gates.with(Gates.row(0, 0, 3, 0, 1), Gates.row(0, 0, 3, 1, 2),
                Gates.row(1, 1, 3, 0, 2),
                Gates.row(1, 1, 3, 1, 1)), 4));
        check.due("", minimal(Gates.withColumn(1, 2), 0));

        document.says("The sets with fewer columns come first; of sets with as many columns, the smaller number comes"
                + " first.");
        check.due("8 3 5 6", minimal(threePairs(), 4));
        check.due("8 16 6", minimal(threePairs(), 0));

        document.says("- `column`: the column");
        check.due("8 16 5", minimal(threePairs(), 1));
        check.due("8 16 3", minimal(threePairs(), 2));
        check.due("16 3 5 6", minimal(threePairs(), 3));

        document.says("- `position`: the position in this order, from 0");
        QualityGate gate = threePairs();
        int[] sets = {8, 3, 5, 6};
        for (int position = 0; position < 4; position++) {
            check.due(sets[position], gate.minimalAt(4, position));
        }
        check.dueFromTo(0, 3, IndexOutOfBoundsException.class, position -> threePairs().minimalAt(4, position));

        document.says("Returns the set.");
        check.due(8, gate.minimalAt(4, 0));
        gate.setValue(3, 3, 3);
        check.due("3 5 6 10 12", minimal(gate, 4));
        gate.setValue(3, 4, 3);
        check.due("8 3 5 6", minimal(gate, 4));

        document.says("Throws `IndexOutOfBoundsException` if there is no such column or no such position");
        check.dueFromTo(0, 4, IndexOutOfBoundsException.class, column -> threePairs().minimalAt(column, 0));
        check.dueFromTo(0, 0, IndexOutOfBoundsException.class, position -> new QualityGate().minimalAt(0, position));
        check.dueThrow(IndexOutOfBoundsException.class, () -> Gates.full().minimalAt(0, 0));
        check.dueThrow(IndexOutOfBoundsException.class, () -> Gates.full().minimalAt(5, 1));
    }

    // ---- promises 35 to 37

    private void closureOf() {
        document.section("promise 35");
        document.says("Returns the set of all columns that belong to a set or are determined by it.");
        QualityGate gate = places();
        check.due("0 1 6 4 31", gate.closureOf(0) + " " + gate.closureOf(1) + " " + gate.closureOf(2) + " "
                + gate.closureOf(4) + " " + gate.closureOf(9));
        for (int set = 0; set < 32; set++) {
            int want = set;
            for (int column = 0; column < 5; column++) {
                want |= gate.determinesByPairs(set, column) ? 1 << column : 0;
            }
            check.due(want, gate.closureOf(set));
        }

        document.says("- `set`: the set of columns");
        dueSets(QualityGate::closureOf);

        document.says("Returns the larger set.");
        for (int set = 0; set < 32; set++) {
            check.due(31, new QualityGate().closureOf(set));
            check.due(set, places().closureOf(set) & set);
            check.due(set | 30, Gates.full().closureOf(set));
        }

        document.says("Throws `IllegalArgumentException` if the set is not 0 to 31");
        dueSets(QualityGate::closureOf);
    }

    private void isKey() {
        document.section("promise 36");
        document.says("Tells whether a set is a key.");
        QualityGate gate = places();
        check.due("true false false false true", gate.isKey(9) + " " + gate.isKey(1) + " " + gate.isKey(8) + " "
                + gate.isKey(22) + " " + gate.isKey(31));
        gate.setValue(5, 3, 1);
        check.due("false false", gate.isKey(9) + " " + gate.isKey(31));
        gate.setValue(5, 4, M);
        check.due("false true", gate.isKey(9) + " " + gate.isKey(25));

        document.says("- `set`: the set of columns");
        dueSets(QualityGate::isKey);

        document.says("Returns whether it is a key.");
        for (int set = 0; set < 32; set++) {
            check.due(true, new QualityGate().isKey(set));
            check.due(true, Gates.withColumn(M).isKey(set));
            check.due(false, Gates.withColumn(M, M).isKey(set));
            check.due(set % 2 == 1, Gates.withColumn(M, 99).isKey(set));
        }
        QualityGate staged = places();
        staged.stage(1, 10, 50, 1, 7);
        check.due(true, staged.isKey(9));
        staged.commit();
        check.due(false, staged.isKey(31));

        document.says("Throws `IllegalArgumentException` if the set is not 0 to 31");
        dueSets(QualityGate::isKey);
    }

    private void smallestKey() {
        document.section("promise 37");
        document.says("Returns the key with the fewest columns; of several, the one with the smallest number.");
        check.due(9, places().smallestKey());
        check.due(8, threePairs().smallestKey());
        QualityGate gate = threePairs();
        gate.setValue(3, 3, 3);
        check.due(16, gate.smallestKey());
        gate.setValue(3, 4, 3);
        check.due(3, gate.smallestKey());
        gate.setValue(0, 1, 1);
        check.due(5, gate.smallestKey());

        document.says("Returns the set.");
        check.due(0, new QualityGate().smallestKey());
        check.due(0, Gates.withColumn(M).smallestKey());
        for (int column = 0; column < 5; column++) {
            QualityGate two = Gates.withColumn(0, 0);
            two.setValue(1, column, M);
            check.due(1 << column, two.smallestKey());
        }

        document.says("Throws `NoSuchElementException` if no set is a key");
        check.dueThrow(NoSuchElementException.class, Gates.withColumn(1, 1)::smallestKey);
        QualityGate full = Gates.full();
        check.due(1, full.smallestKey());
        full.setValue(0, 0, 11);
        check.dueThrow(NoSuchElementException.class, full::smallestKey);
        full.removeRow(11);
        check.due(1, full.smallestKey());
    }

    // ---- promise 38

    private void errorOf() {
        document.section("promise 38");
        document.says("Returns the smallest number of rows that must be removed so that a set determines a column.");
        QualityGate gate = Gates.with(Gates.row(1, 5, 0, 0, 0), Gates.row(1, 5, 1, 0, 0), Gates.row(1, 6, 2, 0, 0),
                Gates.row(M, 7, 3, 0, 0), Gates.row(M, M, 4, 0, 0), Gates.row(M, 8, 5, 0, 0), Gates.row(2, 9, 6, 0, 0));
        check.due(3, gate.errorOf(1, 1));
        check.due(5, gate.errorOf(0, 1));
        check.due(0, gate.errorOf(4, 1));
        check.due(6, gate.errorOf(0, 2));
        check.due(4, gate.errorOf(0, 0));
        check.due(0, gate.errorOf(1, 3));
        check.due(2, Gates.with(Gates.row(1, 6, 0, 0, 0), Gates.row(1, 5, 0, 0, 0), Gates.row(1, M, 0, 0, 0),
                Gates.row(1, 5, 0, 0, 0), Gates.row(2, M, 0, 0, 0), Gates.row(2, M, 0, 0, 0)).errorOf(1, 1));

        document.says("- `set`: the set of columns");
        check.due("1 5 0", gate.errorOf(2, 2) + " " + gate.errorOf(24, 1) + " " + gate.errorOf(4, 1));
        for (int set = 0; set < 16; set++) {
            check.due(11, Gates.full().errorOf(2 * set, 0));
            check.due(0, Gates.full().errorOf(set, 4));
        }

        document.says("- `column`: the column");
        check.due("0 0 0 0", gate.errorOf(4, 0) + " " + gate.errorOf(4, 1) + " " + gate.errorOf(4, 3) + " "
                + gate.errorOf(4, 4));
        check.due("4 5 6 0 0", gate.errorOf(0, 0) + " " + gate.errorOf(0, 1) + " " + gate.errorOf(0, 2) + " "
                + gate.errorOf(0, 3) + " " + gate.errorOf(0, 4));

        document.says("Returns the number of rows.");
        QualityGate full = Gates.full();
        for (int same = 1; same < 12; same++) {
            full.setValue(same, 0, 0);
            check.due(11 - same, full.errorOf(30, 0));
        }
        check.due(0, new QualityGate().errorOf(0, 0));
        check.due(0, Gates.withColumn(1).errorOf(0, 0));
        noSuchColumn((each, column) -> each.errorOf(0, column));
        check.dueThrow(IndexOutOfBoundsException.class, () -> places().errorOf(32, 5));

        document.says("Throws `IllegalArgumentException` if the set is not 0 to 31, or the column belongs to it");
        for (int column = 0; column < 5; column++) {
            int at = column;
            for (int wrong : WRONG_SETS) {
                check.dueThrow(IllegalArgumentException.class, () -> places().errorOf(wrong, at));
            }
            for (int set = 0; set < 32; set++) {
                int bits = set;
                boolean isThrown = Check.ownOutcome(() -> places().errorOf(bits,
                        at)).equals("throws.IllegalArgumentException");
                check.due((set >> column & 1) == 1, isThrown);
            }
        }
    }
}
