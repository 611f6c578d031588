import java.lang.reflect.Field;
import java.lang.reflect.Method;
import java.lang.reflect.Modifier;
import java.util.ArrayList;
import java.util.Arrays;
import java.util.List;
import java.util.NoSuchElementException;
import java.util.Set;
import java.util.TreeSet;

/** The sentences of "Terms" about dependencies, repairs, outliers, profiles, exceptions and the constant. */
final class FigureTermsSentenceTest {
    private static final int M = Gates.M;

    private final Check check;
    private final Sentences document;
    /** The calls of the parts of the interface that were quoted so far. */
    private final Set<String> calls = new TreeSet<>();

    FigureTermsSentenceTest(Check check, Sentences document) {
        this.check = check;
        this.document = document;
    }

    void run() throws ReflectiveOperationException {
        document.section("Terms");
        determining();
        emptySet();
        minimalSets();
        keys();
        repairs();
        bestRepair();
        middleNumber();
        medianOfColumn();
        distance();
        spread();
        outlier();
        buckets();
        profile();
        rowsOfTableAndProfile();
        drift();
        nothingChanges();
        firstListed();
        constant();
        interfaceSections();
    }

    // ---- dependencies

    private static final int[][] ROWS = {{1, 1, M, 5, 0}, {1, 2, M, 5, 1}, {2, 1, 4, 5, 0}, {2, 2, 4, M, 1},
            {M, 1, 4, M, 0}, {M, 2, 3, M, 0}, {1, 1, M, 5, 2}};

    private static boolean isDetermined(int[][] rows, int set, int column) {
        for (int[] row : rows) {
            for (int[] other : rows) {
                if (row[column] != other[column] && areEqual(row, other, set)) {
                    return false;
                }
            }
        }
        return (set >> column & 1) == 0;
    }

    private static boolean areEqual(int[] row, int[] other, int set) {
        boolean areEqual = true;
        for (int column = 0; column < 5; column++) {
            areEqual &= (set >> column & 1) == 0 || row[column] == other[column];
        }
        return areEqual;
    }

    private void determining() {
        document.says("A set determines a column if any two rows that are equal in the set have equal values in the"
                + " column, and the column does not belong to the set.");
        for (int rows = 0; rows <= ROWS.length; rows++) {
            int[][] some = Arrays.copyOf(ROWS, rows);
            QualityGate gate = Gates.with(some);
            for (int set = 0; set < 32; set++) {
                for (int column = 0; column < 5; column++) {
                    check.due(isDetermined(some, set, column), gate.determines(set, column));
                    check.due(isDetermined(some, set, column), gate.determinesByPairs(set, column));
                }
            }
        }
    }

    private void emptySet() {
        document.says("(The empty set determines a column in which all values are equal.)");
        QualityGate gate = Gates.with(Gates.row(7, M, 0, 1, 2), Gates.row(7, M, 0, 1, 3), Gates.row(7, M, 1, 1, 2));
        for (int column = 0; column < 5; column++) {
            boolean isEqual = column != 2 && column != 4;
            check.due(isEqual, gate.determines(0, column));
            check.due(isEqual, gate.determinesByPairs(0, column));
            check.due(isEqual, gate.minimalCount(column) == 1 && gate.minimalAt(column, 0) == 0);
        }
        check.due(11, gate.closureOf(0));
    }

    private void minimalSets() {
        document.says("A set is minimal for a column if it determines the column and no set that results when one or"
                + " more columns are taken out of it determines it.");
        for (int rows = 0; rows <= ROWS.length; rows++) {
            int[][] some = Arrays.copyOf(ROWS, rows);
            QualityGate gate = Gates.with(some);
            for (int column = 0; column < 5; column++) {
                List<Integer> want = new ArrayList<>();
                for (int set = 0; set < 32; set++) {
                    if (isMinimal(some, set, column)) {
                        want.add(set);
                    }
                }
                check.due(want.size(), gate.minimalCount(column));
                check.due(want.size(), gate.minimalCountByTrying(column));
                List<Integer> got = new ArrayList<>();
                for (int position = 0; position < gate.minimalCount(column); position++) {
                    got.add(gate.minimalAt(column, position));
                }
                got.sort(null);
                check.due(want, got);
            }
        }
    }

    private static boolean isMinimal(int[][] rows, int set, int column) {
        for (int other = 0; other < 32; other++) {
            if (other != set && (other & set) == other && isDetermined(rows, other, column)) {
                return false;
            }
        }
        return isDetermined(rows, set, column);
    }

    private void keys() {
        document.says("A set is a key if no two rows are equal in it.");
        for (int rows = 0; rows <= ROWS.length; rows++) {
            int[][] some = Arrays.copyOf(ROWS, rows);
            QualityGate gate = Gates.with(some);
            for (int set = 0; set < 32; set++) {
                boolean isKey = true;
                for (int i = 0; i < rows; i++) {
                    for (int j = 0; j < i; j++) {
                        isKey &= !areEqual(some[i], some[j], set);
                    }
                }
                check.due(isKey, gate.isKey(set));
            }
        }
    }

    // ---- repairs

    private void repairs() {
        document.says("A repair is a set of rows that contains all bad rows and at least one of any two rows that"
                + " conflict.");
        QualityGate gate = Gates.with(Gates.row(1, 0, 0, 0, 0), Gates.row(1, M, 0, 0, 0), Gates.row(1, 0, 1, 0, 0),
                Gates.row(2, 0, 0, 0, 0), Gates.row(3, M, 0, 0, 0), Gates.row(4, 0, 7, 8, 0), Gates.row(5, 0, 7, 9, 0));
        gate.addUnique(0, false);
        gate.addRequired(1, false);
        gate.addDependency(4, 3, true);
        check.due("1 2 4 6", Gates.inRepair(gate));
        check.due(4, gate.fewestRemovals());
        check.due(4, gate.fewestRemovalsByTrying());
        check.due(4, gate.repair());
        check.due("0 3 5", Gates.ids(gate));
        check.due(0, gate.violations(0) + gate.violations(1) + gate.violations(2));
    }

    private void bestRepair() {
        document.says("The best repair is the repair with the fewest rows; of several, the one that comes first:"
                + " where two repairs differ, the row with the smallest id that belongs to only one of them is looked"
                + " at, and the repair to which it does not belong comes first.");
        dueBest("1", new int[] {1, 1}, new int[] {0, 1});
        dueBest("1 2", new int[] {1, 1, 1}, new int[] {0, 1, 2});
        dueBest("1", new int[] {1, 1, 2}, new int[] {0, 1, 1});
        dueBest("0", new int[] {1, 1, 2}, new int[] {1, 0, 1});
        dueBest("2 3", new int[] {1, 2, 1, 2}, new int[] {0, 1, 2, 3});
        dueBest("1 3", new int[] {1, 1, 2, 2}, new int[] {0, 1, 1, 2});
        dueBest("1 3 5 7 9 11", new int[] {0, 0, 1, 1, 2, 2, 3, 3, 4, 4, 5, 5},
                new int[] {0, 1, 1, 2, 2, 3, 3, 4, 4, 5, 5, 0});
        dueBest("1 3 5 7 9", new int[] {0, 0, 1, 1, 2, 2, 3, 3, 4, 4, 9},
                new int[] {0, 1, 1, 2, 2, 3, 3, 4, 8, 0, 4});
        dueBest("0 4", new int[] {1, 1, 2, 3, 3, 5}, new int[] {4, 5, 4, 6, 7, 7});
    }

    /** The best repair of rows with these values in two unique columns, which all sets of rows are held against. */
    private void dueBest(String want, int[] firsts, int[] seconds) {
        QualityGate gate = new QualityGate();
        gate.addUnique(0, false);
        gate.addUnique(1, false);
        for (int row = 0; row < firsts.length; row++) {
            Gates.add(gate, Gates.row(firsts[row], seconds[row], 0, 0, 0));
        }
        check.due(bestOfAll(firsts, seconds), Gates.inRepair(gate));
        check.due(want, Gates.inRepair(gate));
    }

    /** A set of rows is written as a text of signs, 1 for a row of the set: of texts with as many 1, the first one. */
    private static String bestOfAll(int[] firsts, int[] seconds) {
        int rows = firsts.length;
        String best = "1".repeat(rows);
        for (int set = 0; set < 1 << rows; set++) {
            String signs = Integer.toBinaryString(set + (1 << rows)).substring(1);
            int fewer = Integer.bitCount(set) - best.replace("0", "").length();
            if (isRepair(signs, firsts, seconds) && (fewer < 0 || fewer == 0 && signs.compareTo(best) < 0)) {
                best = signs;
            }
        }
        StringBuilder ids = new StringBuilder();
        for (int id = 0; id < rows; id++) {
            if (best.charAt(id) == '1') {
                ids.append(ids.length() == 0 ? "" : " ").append(id);
            }
        }
        return ids.toString();
    }

    private static boolean isRepair(String signs, int[] firsts, int[] seconds) {
        boolean isRepair = true;
        for (int i = 0; i < firsts.length; i++) {
            for (int j = 0; j < i; j++) {
                boolean isConflict = firsts[i] == firsts[j] || seconds[i] == seconds[j];
                isRepair &= !isConflict || signs.charAt(i) == '1' || signs.charAt(j) == '1';
            }
        }
        return isRepair;
    }

    // ---- outliers

    private void middleNumber() {
        document.says("The median of some numbers is the number in the middle after they are sorted; if there are two"
                + " in the middle, it is the smaller one of them.");
        int[][] numbers = {{-7}, {2, 9}, {-5, 0, 6}, {-5, -4, 6, 7}, {1, 1, 2, 3, 3}, {-99, 1, 4, 5, 98, 99}};
        int[] medians = {-7, 2, 0, -4, 2, 4};
        for (int some = 0; some < numbers.length; some++) {
            int[] shifted = numbers[some].clone();
            for (int start = 0; start < shifted.length; start++) {
                check.due(medians[some], Gates.withColumn(shifted).medianOf(0));
                int first = shifted[0];
                System.arraycopy(shifted, 1, shifted, 0, shifted.length - 1);
                shifted[shifted.length - 1] = first;
            }
        }
        check.due(6, Gates.withColumn(12, 1, 11, 2, 10, 3, 9, 4, 8, 5, 7, 6).medianOf(0));
    }

    private void medianOfColumn() {
        document.says("The median of a column is the median of its present values.");
        QualityGate gate = Gates.with(Gates.row(M, 1, M, 8, 50), Gates.row(M, M, M, 6, 40), Gates.row(3, 2, M, 4, 30));
        check.due("3 1 6 40", gate.medianOf(0) + " " + gate.medianOf(1) + " " + gate.medianOf(3) + " "
                + gate.medianOf(4));
        check.dueThrow(NoSuchElementException.class, () -> gate.medianOf(2));
    }

    private void distance() {
        document.says("The distance of a value is the difference between it and the median of its column, without a"
                + " sign.");
        // the median is 10, and the spread 1; a value of the distance d is an outlier by the factors smaller than d
        for (int distance = 1; distance <= 9; distance++) {
            QualityGate gate = Gates.withColumn(10, 10, 9, 11, 11, 10 - distance, 10 + distance);
            for (int factor = 1; factor <= 9; factor++) {
                gate.setFactor(factor);
                check.due(distance > factor, gate.isOutlier(5, 0));
                check.due(distance > factor, gate.isOutlier(6, 0));
            }
        }
    }

    private void spread() {
        document.says("The spread of a column is the median of the distances of its present values.");
        check.due(0, Gates.withColumn(8).spreadOf(0));
        check.due(0, Gates.withColumn(8, 2).spreadOf(0));
        check.due(4, Gates.withColumn(M, 20, 10, 6, M).spreadOf(0));
        check.due(3, Gates.withColumn(13, 10, -90, 12, 8, 99, 7, M).spreadOf(0));
        check.due(9, Gates.withColumn(1, 10, 19, 30).spreadOf(0));
        check.due(5, Gates.with(Gates.row(0, 0, 0, 0, -5), Gates.row(0, 0, 0, 0, 0),
                Gates.row(0, 0, 0, 0, 77)).spreadOf(4));
    }

    private void outlier() {
        document.says("A present value is an outlier if its distance is greater than the spread multiplied by the"
                + " factor, which is 3 at first.");
        QualityGate gate = Gates.withColumn(0, 2, -2, 6, 7, -6, -7, 0, 2, M);
        dueOutliers(gate, 4, 6);
        check.due(3, gate.setFactor(1));
        dueOutliers(gate, 3, 4, 5, 6);
        gate.setFactor(2);
        dueOutliers(gate, 3, 4, 5, 6);
        gate.setFactor(4);
        dueOutliers(gate);
        QualityGate alike = Gates.withColumn(5, 5, 5, 6, M);
        dueOutliers(alike, 3);
        alike.setFactor(9);
        dueOutliers(alike, 3);
    }

    private void dueOutliers(QualityGate gate, int... want) {
        List<Integer> ids = new ArrayList<>();
        for (int id = 0; id < gate.rowCount(); id++) {
            if (gate.isOutlier(id, 0)) {
                ids.add(id);
            }
        }
        check.due(Arrays.toString(want), ids.toString());
        check.due(want.length, gate.outliers(0));
    }

    // ---- profiles and drift

    private void buckets() {
        document.says("A value belongs to a bucket: bucket 10 if it is MISSING, and otherwise the bucket with the"
                + " number (value + 100) / 20, rounded down.");
        for (int value = -99; value <= M; value++) {
            QualityGate gate = Gates.withColumn(value);
            gate.saveProfile();
            for (int other = -99; other <= M; other++) {
                gate.setValue(0, 0, other);
                check.due(bucket(value) == bucket(other) ? 0 : 1000, gate.drift(0));
            }
        }
    }

    private static int bucket(int value) {
        return value == M ? 10 : Math.floorDiv(value + 100, 20);
    }

    private void profile() {
        document.says("A profile has the number of rows, and for each column and bucket the number of rows whose"
                + " value in the column belongs to the bucket.");
        QualityGate gate = Gates.with(Gates.row(0, 30, M, -99, 99), Gates.row(1, 31, M, -80, 79),
                Gates.row(20, 32, 0, 0, M));
        check.due(3, gate.saveProfile());
        for (int column = 0; column < 5; column++) {
            check.due(0, gate.drift(column));
        }
        check.due(2, gate.removeRow(2));
        check.due("333 0 333 333 333", drifts(gate));
        gate.stage(39, 20, 10, 5, M);
        gate.commit();
        check.due("0 0 0 0 0", drifts(gate));
    }

    private static String drifts(QualityGate gate) {
        StringBuilder text = new StringBuilder();
        for (int column = 0; column < 5; column++) {
            text.append(column == 0 ? "" : " ").append(gate.drift(column));
        }
        return text.toString();
    }

    private void rowsOfTableAndProfile() {
        document.says("Let n be the number of rows of the table, p the number of rows of the saved profile, and for a"
                + " bucket let a and b be its number of rows in the table and in the saved profile.");
        QualityGate gate = Gates.withColumn(0, 0);
        gate.saveProfile();
        Gates.stageColumn(gate, 0, 50, 50);
        check.due(5, gate.commit());
        // n is 5 and p is 2; a and b are 3 and 2 in one bucket, 2 and 0 in another one
        check.due(400, gate.drift(0));
        check.due(0, gate.drift(1));
        gate.saveProfile();
        check.due(0, gate.drift(0));
        gate.removeRow(0);
        gate.removeRow(1);
        gate.removeRow(3);
        // n is 2 and p is 5; a and b are 1 and 3 in one bucket, 1 and 2 in another one
        check.due(100, gate.drift(0));
    }

    private void drift() {
        document.says("The drift of a column is 1000 times the sum of |a * p - b * n| over all buckets, divided by 2"
                + " * n * p and rounded down.");
        for (int p = 1; p <= 12; p++) {
            QualityGate gate = new QualityGate();
            for (int row = 0; row < p; row++) {
                Gates.add(gate, Gates.row(row < p / 2 ? 0 : 50, 0, 0, row % 3 == 0 ? M : -50, 0));
            }
            gate.saveProfile();
            for (int n = p; n >= 1; n--) {
                int a = Math.max(0, n - p + p / 2);
                int b = p / 2;
                int sum = Math.abs(a * p - b * n) + Math.abs((n - a) * p - (p - b) * n);
                check.due(1000 * sum / (2 * n * p), gate.drift(0));
                check.due(0, gate.drift(2));
                gate.removeRow(p - n);
            }
        }
        QualityGate thirds = Gates.withColumn(0, 20, 40);
        thirds.saveProfile();
        thirds.setValue(0, 0, 21);
        check.due(333, thirds.drift(0));
        thirds.setValue(1, 0, M);
        check.due(333, thirds.drift(0));
        thirds.setValue(2, 0, M);
        check.due(666, thirds.drift(0));
    }

    // ---- exceptions

    private interface GateCall {
        Object on(QualityGate gate);
    }

    /** A gate with 10 rows, 6 staged rows, 10 rules of which one is dropped, a rejection and a profile. */
    private static QualityGate used() {
        QualityGate gate = Gates.full();
        gate.removeRow(10);
        gate.removeRow(11);
        gate.saveProfile();
        gate.setValue(3, 1, M);
        gate.setFactor(2);
        gate.addUnique(0, true);
        Gates.stageColumn(gate, 50, 4);
        Check.outcome(gate::commit);
        Gates.fillBatch(gate);
        Gates.fillRules(gate);
        gate.dropRule(9);
        return gate;
    }

    private static final GateCall[] REFUSED = {
        gate -> gate.stage(0, 0, 0, 0, 101), gate -> gate.stage(0, 0, 0, 0, 0), QualityGate::commit,
        gate -> gate.removeRow(11), gate -> gate.setValue(11, 0, 0), gate -> gate.setValue(0, 5, 0),
        gate -> gate.setValue(0, 0, 101), gate -> gate.valueAt(11, 0), gate -> gate.valueAt(0, 5),
        gate -> gate.rowAt(11), gate -> gate.addRange(5, 0, 0, true), gate -> gate.addRange(0, 1, 0, true),
        gate -> gate.addRange(0, 0, 0, true), gate -> gate.addRequired(5, true), gate -> gate.addRequired(0, true),
        gate -> gate.addOrder(0, 5, true), gate -> gate.addOrder(0, 0, true), gate -> gate.addOrder(0, 1, true),
        gate -> gate.addUnique(5, true), gate -> gate.addUnique(0, true), gate -> gate.addDependency(0, 5, true),
        gate -> gate.addDependency(1, 0, true), gate -> gate.addDependency(0, 0, true), gate -> gate.dropRule(10),
        gate -> gate.dropRule(9), gate -> gate.violations(10), gate -> gate.violations(9), gate -> gate.isBad(11),
        gate -> gate.conflict(0, 11), gate -> gate.conflict(0, 0), gate -> gate.groupSize(11),
        gate -> gate.isInRepair(11), gate -> gate.determines(32, 0), gate -> gate.determines(0, 5),
        gate -> gate.determinesByPairs(32, 0), gate -> gate.determinesByPairs(0, 5), gate -> gate.minimalCount(5),
        gate -> gate.minimalCountByTrying(5), gate -> gate.minimalAt(0, 9), gate -> gate.closureOf(32),
        gate -> gate.isKey(32), gate -> gate.errorOf(0, 5), gate -> gate.errorOf(1, 0), gate -> gate.setFactor(10),
        gate -> gate.medianOf(5), gate -> gate.spreadOf(5), gate -> gate.isOutlier(11, 0),
        gate -> gate.isOutlier(0, 5), gate -> gate.outliers(5), gate -> gate.drift(5), gate -> gate.meanOf(5),
        gate -> gate.missingShare(5),
    };

    private void nothingChanges() {
        document.says("A method that throws an exception changes nothing, except that commit records a rejection.");
        QualityGate gate = used();
        String before = new Look(used()).all();
        for (GateCall call : REFUSED) {
            check.due(true, Check.ownOutcome(() -> call.on(gate)).toString().startsWith("throws."));
        }
        check.due(before, new Look(gate).all());
        check.due("1 0 4 false", Gates.rejection(gate));
        rejectionIsRecorded();
    }

    private void rejectionIsRecorded() {
        QualityGate gate = used();
        QualityGate twin = used();
        for (QualityGate each : new QualityGate[] {gate, twin}) {
            check.due(6, each.discard());
            Gates.stageColumn(each, 7);
        }
        check.dueThrow(UnsupportedOperationException.class, gate::commit);
        check.due(new Look(twin).allButRejection(), new Look(gate).allButRejection());
        check.due("0 0 7 false", Gates.rejection(gate));
        check.due("1 0 4 false", Gates.rejection(twin));
    }

    private void firstListed() {
        document.says("If several exceptions of a method apply, the one that is listed first is thrown.");
        QualityGate gate = used();
        QualityGate none = new QualityGate();
        check.dueThrow(IllegalArgumentException.class, () -> gate.stage(101, 0, 0, 0, 0));
        check.dueThrow(IllegalStateException.class, gate::commit);
        check.dueThrow(NoSuchElementException.class, () -> gate.setValue(11, 5, 101));
        check.dueThrow(IndexOutOfBoundsException.class, () -> gate.setValue(0, 5, 101));
        check.dueThrow(NoSuchElementException.class, () -> gate.valueAt(11, 5));
        check.dueThrow(IndexOutOfBoundsException.class, () -> gate.addRange(5, 1, 0, true));
        check.dueThrow(IllegalArgumentException.class, () -> gate.addRange(0, 1, 0, true));
        check.dueThrow(IndexOutOfBoundsException.class, () -> gate.addRequired(5, true));
        check.dueThrow(IndexOutOfBoundsException.class, () -> gate.addOrder(5, 5, true));
        check.dueThrow(IllegalArgumentException.class, () -> gate.addOrder(0, 0, true));
        check.dueThrow(IndexOutOfBoundsException.class, () -> gate.addUnique(5, true));
        check.dueThrow(IndexOutOfBoundsException.class, () -> gate.addDependency(32, 5, true));
        check.dueThrow(IllegalArgumentException.class, () -> gate.addDependency(1, 0, true));
        check.dueThrow(NoSuchElementException.class, () -> gate.conflict(11, 11));
        check.dueThrow(IllegalArgumentException.class, () -> gate.determines(32, 5));
        check.dueThrow(IllegalArgumentException.class, () -> gate.determinesByPairs(32, 5));
        check.dueThrow(IndexOutOfBoundsException.class, () -> gate.errorOf(32, 5));
        check.dueThrow(IndexOutOfBoundsException.class, () -> none.medianOf(5));
        check.dueThrow(IndexOutOfBoundsException.class, () -> none.spreadOf(5));
        check.dueThrow(NoSuchElementException.class, () -> none.isOutlier(0, 5));
        check.dueThrow(IndexOutOfBoundsException.class, () -> none.drift(5));
        check.dueThrow(NoSuchElementException.class, () -> none.drift(0));
        check.dueThrow(NoSuchElementException.class, none::mostDrifted);
        check.dueThrow(IndexOutOfBoundsException.class, () -> none.meanOf(5));
        check.dueThrow(IndexOutOfBoundsException.class, () -> none.missingShare(5));
    }

    // ---- the constant and the parts of the interface

    private void constant() throws ReflectiveOperationException {
        document.says("The constants: `MISSING = 100`: The value that stands for a missing number.");
        Field missing = QualityGate.class.getField("MISSING");
        check.due(Modifier.PUBLIC | Modifier.STATIC | Modifier.FINAL, missing.getModifiers());
        check.due(int.class, missing.getType());
        check.due(100, missing.getInt(null));
        check.due(1, QualityGate.class.getFields().length);
        QualityGate gate = Gates.withColumn(QualityGate.MISSING);
        check.due(100, gate.valueAt(0, 0));
        check.due(1.0f, gate.missingShare(0));
    }

    private void interfaceSections() {
        section("batches and rows", "stage", "commit", "discard", "staged", "rejectedRow", "rejectedRule",
                "rejectedOther", "isOtherStaged", "removeRow", "setValue", "valueAt", "rowCount", "rowAt");
        section("rules", "addRange", "addRequired", "addOrder", "addUnique", "addDependency", "dropRule", "violations",
                "isBad", "conflict", "groups", "groupSize");
        section("repairs", "fewestRemovals", "fewestRemovalsByTrying", "isInRepair", "repair");
        section("dependencies", "determines", "determinesByPairs", "minimalCount", "minimalCountByTrying", "minimalAt",
                "closureOf", "isKey", "smallestKey", "errorOf");
        section("outliers", "setFactor", "medianOf", "spreadOf", "isOutlier", "outliers");
        section("profiles and figures", "saveProfile", "drift", "mostDrifted", "meanOf", "missingShare",
                "isConsistent");
        check.due(publicMethods(), calls);
    }

    /** The text ahead of the calls is no answer; what can be held is that the parts together are the interface. */
    private void section(String name, String... part) {
        document.says("Ahead of the calls `" + String.join("`, `", part) + "` the interface says: ---- " + name + ".");
        for (String call : part) {
            check.due(call + " is public", call + (publicMethods().contains(call) ? " is public" : " is missing"));
            check.due(true, calls.add(call));
        }
    }

    private static Set<String> publicMethods() {
        Set<String> names = new TreeSet<>();
        for (Method method : QualityGate.class.getDeclaredMethods()) {
            if (Modifier.isPublic(method.getModifiers())) {
                names.add(method.getName());
            }
        }
        return names;
    }
}
