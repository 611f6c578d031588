import java.util.ArrayList;
import java.util.NoSuchElementException;

/**
 * A quality gate for a table: rows come in batches and are checked by strict rules; rules over columns, functional
 * dependencies found in the data, conflicts between rows, the fewest rows to remove, outliers, and the drift of the
 * values against a saved profile.
 *
 * <p>A set of rows is held as a number whose bit i stands for the row at position i of the table; a set of columns as
 * the document says; a set of sets of columns as a long whose bit s stands for the set s.
 */
public final class QualityGate {
    public static final int MISSING = 100;

    private static final int COLUMNS = 5;
    private static final int SETS = 32;
    private static final int MOST_ROWS = 12;
    private static final int MOST_STAGED = 6;
    private static final int MOST_RULES = 10;
    private static final int LOWEST = -99;
    private static final int HIGHEST = 99;
    private static final int BUCKETS = 11;
    private static final int MISSING_BUCKET = 10;
    private static final int BUCKET_WIDTH = 20;
    private static final int FIRST_FACTOR = 3;
    private static final int HIGHEST_FACTOR = 9;
    private static final int NONE = -1;

    /** The rows of the table, ordered by their ids. */
    private final ArrayList<Row> table;
    /** The staged rows, ordered by their indices. */
    private final ArrayList<Row> batch;
    /** All rules that were added, the dropped ones too: a rule keeps its number. */
    private final ArrayList<Rule> rules;
    private final Rejection rejection;
    private final Conflicts conflicts;
    private final Partition partition;
    private final SortedNumbers numbers;
    /** The saved profile: by column and bucket, the number of rows. */
    private final int[][] profile;
    /** The number of rows of the saved profile; 0 if none was saved, as an empty table has no profile. */
    private int profileRows;
    private int nextId;
    private int factor;

    public QualityGate() {
        table = new ArrayList<Row>();
        batch = new ArrayList<Row>();
        rules = new ArrayList<Rule>();
        rejection = new Rejection();
        conflicts = new Conflicts();
        partition = new Partition();
        numbers = new SortedNumbers();
        profile = new int[COLUMNS][BUCKETS];
        factor = FIRST_FACTOR;
    }

    // ---- batches and rows

    public int stage(int a, int b, int c, int d, int e) throws IllegalArgumentException, IllegalStateException {
        if (!isValue(a) || !isValue(b) || !isValue(c) || !isValue(d) || !isValue(e)) {
            throw new IllegalArgumentException("a value is out of range");
        }
        if (batch.size() >= MOST_STAGED) {
            throw new IllegalStateException("6 rows are staged");
        }
        batch.add(new Row(a, b, c, d, e));
        return batch.size();
    }

    public int commit() throws IllegalStateException, UnsupportedOperationException {
        if (batch.isEmpty()) {
            throw new IllegalStateException("no rows are staged");
        }
        if (table.size() + batch.size() > MOST_ROWS) {
            throw new IllegalStateException("the table would have more than 12 rows");
        }
        if (isBatchRejected()) {
            throw new UnsupportedOperationException("the commit is rejected");
        }
        for (int i = 0; i < batch.size(); i++) {
            Row row = batch.get(i);
            row.id = nextId;
            nextId++;
            table.add(row);
        }
        batch.clear();
        return table.size();
    }

    public int discard() {
        int discarded = batch.size();
        batch.clear();
        return discarded;
    }

    public int staged() {
        return batch.size();
    }

    public int rejectedRow() throws NoSuchElementException {
        if (rejection.index == NONE) {
            throw new NoSuchElementException("no commit was rejected");
        }
        return rejection.index;
    }

    public int rejectedRule() throws NoSuchElementException {
        if (rejection.index == NONE) {
            throw new NoSuchElementException("no commit was rejected");
        }
        return rejection.rule;
    }

    public int rejectedOther() throws NoSuchElementException {
        if (rejection.other == NONE) {
            throw new NoSuchElementException("there is no other row of a rejection");
        }
        return rejection.other;
    }

    public boolean isOtherStaged() throws NoSuchElementException {
        if (rejection.other == NONE) {
            throw new NoSuchElementException("there is no other row of a rejection");
        }
        return rejection.isInBatch;
    }

    public int removeRow(int id) throws NoSuchElementException {
        table.remove(positionOf(id));
        return table.size();
    }

    public int setValue(int id, int column, int value)
            throws NoSuchElementException, IndexOutOfBoundsException, IllegalArgumentException {
        Row row = rowWith(id);
        needColumn(column);
        if (!isValue(value)) {
            throw new IllegalArgumentException("the value is out of range");
        }
        int previous = row.value(column);
        row.put(column, value);
        return previous;
    }

    public int valueAt(int id, int column) throws NoSuchElementException, IndexOutOfBoundsException {
        Row row = rowWith(id);
        needColumn(column);
        return row.value(column);
    }

    public int rowCount() {
        return table.size();
    }

    public int rowAt(int position) throws IndexOutOfBoundsException {
        if (position < 0 || position >= table.size()) {
            throw new IndexOutOfBoundsException("there is no such position");
        }
        return table.get(position).id;
    }

    // ---- rules

    public int addRange(int column, int low, int high, boolean isStrict)
            throws IndexOutOfBoundsException, IllegalArgumentException, IllegalStateException {
        needColumn(column);
        if (low < LOWEST || low > HIGHEST || high < low || high > HIGHEST) {
            throw new IllegalArgumentException("a bound is out of range");
        }
        needRoomForRule();
        return numberOfAdded(new RangeRule(column, low, high, isStrict));
    }

    public int addRequired(int column, boolean isStrict) throws IndexOutOfBoundsException, IllegalStateException {
        needColumn(column);
        needRoomForRule();
        return numberOfAdded(new RequiredRule(column, isStrict));
    }

    public int addOrder(int first, int second, boolean isStrict)
            throws IndexOutOfBoundsException, IllegalArgumentException, IllegalStateException {
        needColumn(first);
        needColumn(second);
        if (first == second) {
            throw new IllegalArgumentException("both columns are the same");
        }
        needRoomForRule();
        return numberOfAdded(new OrderRule(first, second, isStrict));
    }

    public int addUnique(int column, boolean isStrict) throws IndexOutOfBoundsException, IllegalStateException {
        needColumn(column);
        needRoomForRule();
        return numberOfAdded(new UniqueRule(column, isStrict));
    }

    public int addDependency(int set, int column, boolean isStrict)
            throws IndexOutOfBoundsException, IllegalArgumentException, IllegalStateException {
        needColumn(column);
        needSetWithout(set, column);
        needRoomForRule();
        return numberOfAdded(new DependencyRule(set, column, isStrict));
    }

    public int dropRule(int rule) throws IndexOutOfBoundsException, IllegalStateException {
        ruleInForce(rule).isDropped = true;
        int inForce = 0;
        for (int i = 0; i < rules.size(); i++) {
            if (!rules.get(i).isDropped) {
                inForce++;
            }
        }
        return inForce;
    }

    public int violations(int rule) throws IndexOutOfBoundsException, IllegalStateException {
        Rule looked = ruleInForce(rule);
        int count = 0;
        for (int i = 0; i < table.size(); i++) {
            Row row = table.get(i);
            if (looked.isBrokenBy(row)) {
                count++;
            }
            for (int j = 0; j < i; j++) {
                if (looked.isClash(row, table.get(j))) {
                    count++;
                }
            }
        }
        return count;
    }

    public boolean isBad(int id) throws NoSuchElementException {
        return breaksSome(rules, rowWith(id));
    }

    public boolean conflict(int id, int other) throws NoSuchElementException, IllegalArgumentException {
        Row row = rowWith(id);
        Row otherRow = rowWith(other);
        if (id == other) {
            throw new IllegalArgumentException("both ids are the same");
        }
        return clashBySome(rules, row, otherRow);
    }

    public int groups() {
        conflicts.find(table, rules);
        int seen = 0;
        int count = 0;
        for (int i = 0; i < table.size(); i++) {
            if (!isIn(i, seen)) {
                seen |= conflicts.reachedFrom(i);
                count++;
            }
        }
        return count;
    }

    public int groupSize(int id) throws NoSuchElementException {
        int position = positionOf(id);
        conflicts.find(table, rules);
        return Integer.bitCount(conflicts.reachedFrom(position));
    }

    // ---- repairs

    public int fewestRemovals() {
        return Integer.bitCount(bestRepair());
    }

    public int fewestRemovalsByTrying() {
        conflicts.find(table, rules);
        int fewest = conflicts.size;
        for (int removed = 0; removed <= conflicts.everyRow(); removed++) {
            if (Integer.bitCount(removed) < fewest && conflicts.isRepairedBy(removed)) {
                fewest = Integer.bitCount(removed);
            }
        }
        return fewest;
    }

    public boolean isInRepair(int id) throws NoSuchElementException {
        int position = positionOf(id);
        return isIn(position, bestRepair());
    }

    public int repair() {
        int removed = bestRepair();
        // from the last position down, as a removal moves the rows behind it
        for (int i = table.size() - 1; i >= 0; i--) {
            if (isIn(i, removed)) {
                table.remove(i);
            }
        }
        return Integer.bitCount(removed);
    }

    // ---- dependencies

    public boolean determines(int set, int column) throws IllegalArgumentException, IndexOutOfBoundsException {
        needSet(set);
        needColumn(column);
        return isDeterminedInClasses(set, column);
    }

    public boolean determinesByPairs(int set, int column) throws IllegalArgumentException, IndexOutOfBoundsException {
        needSet(set);
        needColumn(column);
        return isDeterminedInPairs(set, column);
    }

    public int minimalCount(int column) throws IndexOutOfBoundsException {
        needColumn(column);
        return Long.bitCount(minimalSets(column));
    }

    public int minimalCountByTrying(int column) throws IndexOutOfBoundsException {
        needColumn(column);
        long determining = 0;
        for (int set = 0; set < SETS; set++) {
            if (isDeterminedInPairs(set, column)) {
                determining |= 1L << set;
            }
        }
        int count = 0;
        for (int set = 0; set < SETS; set++) {
            if (isSetIn(set, determining) && !holdsOther(set, determining)) {
                count++;
            }
        }
        return count;
    }

    public int minimalAt(int column, int position) throws IndexOutOfBoundsException {
        needColumn(column);
        long minimal = minimalSets(column);
        if (position < 0 || position >= Long.bitCount(minimal)) {
            throw new IndexOutOfBoundsException("there is no such position");
        }
        return setInOrder(minimal, position);
    }

    public int closureOf(int set) throws IllegalArgumentException {
        needSet(set);
        int closure = set;
        for (int column = 0; column < COLUMNS; column++) {
            if (isDeterminedInClasses(set, column)) {
                closure |= 1 << column;
            }
        }
        return closure;
    }

    public boolean isKey(int set) throws IllegalArgumentException {
        needSet(set);
        return isTellingRowsApart(set);
    }

    public int smallestKey() throws NoSuchElementException {
        long keys = 0;
        for (int set = 0; set < SETS; set++) {
            if (isTellingRowsApart(set)) {
                keys |= 1L << set;
            }
        }
        if (keys == 0) {
            throw new NoSuchElementException("no set is a key");
        }
        return setInOrder(keys, 0);
    }

    public int errorOf(int set, int column) throws IndexOutOfBoundsException, IllegalArgumentException {
        needColumn(column);
        needSetWithout(set, column);
        partition.divide(table, set);
        return partition.removalsToDetermine(table, column);
    }

    // ---- outliers

    public int setFactor(int factor) throws IllegalArgumentException {
        if (factor < 1 || factor > HIGHEST_FACTOR) {
            throw new IllegalArgumentException("the factor is out of range");
        }
        int previous = this.factor;
        this.factor = factor;
        return previous;
    }

    public int medianOf(int column) throws IndexOutOfBoundsException, NoSuchElementException {
        needColumn(column);
        if (presentCount(column) == 0) {
            throw new NoSuchElementException("the column has no present values");
        }
        return columnMedian(column);
    }

    public int spreadOf(int column) throws IndexOutOfBoundsException, NoSuchElementException {
        needColumn(column);
        if (presentCount(column) == 0) {
            throw new NoSuchElementException("the column has no present values");
        }
        return columnSpread(column, columnMedian(column));
    }

    public boolean isOutlier(int id, int column) throws NoSuchElementException, IndexOutOfBoundsException {
        Row row = rowWith(id);
        needColumn(column);
        int median = columnMedian(column);
        return isFar(row, column, median, columnSpread(column, median) * factor);
    }

    public int outliers(int column) throws IndexOutOfBoundsException {
        needColumn(column);
        int median = columnMedian(column);
        int limit = columnSpread(column, median) * factor;
        int count = 0;
        for (int i = 0; i < table.size(); i++) {
            if (isFar(table.get(i), column, median, limit)) {
                count++;
            }
        }
        return count;
    }

    // ---- profiles and figures

    public int saveProfile() throws IllegalStateException {
        if (table.isEmpty()) {
            throw new IllegalStateException("the table has no rows");
        }
        for (int column = 0; column < COLUMNS; column++) {
            for (int bucket = 0; bucket < BUCKETS; bucket++) {
                profile[column][bucket] = rowsInBucket(column, bucket);
            }
        }
        profileRows = table.size();
        return profileRows;
    }

    public int drift(int column) throws IndexOutOfBoundsException, NoSuchElementException, IllegalStateException {
        needColumn(column);
        needProfileAndRows();
        return driftFromProfile(column);
    }

    public int mostDrifted() throws NoSuchElementException, IllegalStateException {
        needProfileAndRows();
        int most = 0;
        int greatest = NONE;
        for (int column = 0; column < COLUMNS; column++) {
            int drifted = driftFromProfile(column);
            if (drifted > greatest) {
                greatest = drifted;
                most = column;
            }
        }
        return most;
    }

    public double meanOf(int column) throws IndexOutOfBoundsException, ArithmeticException {
        needColumn(column);
        int present = presentCount(column);
        if (present == 0) {
            throw new ArithmeticException("the column has no present values");
        }
        int sum = 0;
        for (int i = 0; i < table.size(); i++) {
            Row row = table.get(i);
            if (row.isPresent(column)) {
                sum += row.value(column);
            }
        }
        return (double) sum / (double) present;
    }

    public float missingShare(int column) throws IndexOutOfBoundsException, ArithmeticException {
        needColumn(column);
        int count = table.size();
        if (count == 0) {
            throw new ArithmeticException("the table has no rows");
        }
        return (float) (count - presentCount(column)) / (float) count;
    }

    public boolean isConsistent() {
        if (fewestRemovals() != fewestRemovalsByTrying()) {
            return false;
        }
        for (int column = 0; column < COLUMNS; column++) {
            if (minimalCount(column) != minimalCountByTrying(column)) {
                return false;
            }
            for (int set = 0; set < SETS; set++) {
                if (determines(set, column) != determinesByPairs(set, column)) {
                    return false;
                }
            }
        }
        return true;
    }

    // ---- what the calls above are made of

    private static boolean isValue(int value) {
        return value >= LOWEST && value <= HIGHEST || value == MISSING;
    }

    private static void needColumn(int column) {
        if (column < 0 || column >= COLUMNS) {
            throw new IndexOutOfBoundsException("there is no such column");
        }
    }

    private static void needSet(int set) {
        if (set < 0 || set >= SETS) {
            throw new IllegalArgumentException("the set is not 0 to 31");
        }
    }

    private static void needSetWithout(int set, int column) {
        needSet(set);
        if (isIn(column, set)) {
            throw new IllegalArgumentException("the column belongs to the set");
        }
    }

    private void needRoomForRule() {
        if (rules.size() >= MOST_RULES) {
            throw new IllegalStateException("10 rules have been added");
        }
    }

    private void needProfileAndRows() {
        if (profileRows == 0) {
            throw new NoSuchElementException("no profile was saved");
        }
        if (table.isEmpty()) {
            throw new IllegalStateException("the table has no rows");
        }
    }

    private int numberOfAdded(Rule rule) {
        rules.add(rule);
        return rules.size() - 1;
    }

    private Rule ruleInForce(int number) {
        if (number < 0 || number >= rules.size()) {
            throw new IndexOutOfBoundsException("no rule with this number was added");
        }
        Rule rule = rules.get(number);
        if (rule.isDropped) {
            throw new IllegalStateException("the rule is dropped");
        }
        return rule;
    }

    private int positionOf(int id) {
        for (int i = 0; i < table.size(); i++) {
            if (table.get(i).id == id) {
                return i;
            }
        }
        throw new NoSuchElementException("there is no such row");
    }

    private Row rowWith(int id) {
        for (int i = 0; i < table.size(); i++) {
            Row row = table.get(i);
            if (row.id == id) {
                return row;
            }
        }
        throw new NoSuchElementException("there is no such row");
    }

    /** Tells whether the bit with this number, of a column or of a position in the table, is 1. */
    private static boolean isIn(int bit, int bits) {
        return (bits >> bit & 1) == 1;
    }

    private boolean isBatchRejected() {
        for (int index = 0; index < batch.size(); index++) {
            for (int number = 0; number < rules.size(); number++) {
                Rule rule = rules.get(number);
                if (rule.isStrict && !rule.isDropped && isRejectedBy(rule, number, batch.get(index), index)) {
                    return true;
                }
            }
        }
        return false;
    }

    /** Checks one staged row by one rule, and records the rejection if the row does not pass. */
    private boolean isRejectedBy(Rule rule, int number, Row row, int index) {
        if (rule.isBrokenBy(row)) {
            rejection.note(index, number, NONE, false);
            return true;
        }
        for (int i = 0; i < table.size(); i++) {
            Row other = table.get(i);
            if (rule.isClash(row, other)) {
                rejection.note(index, number, other.id, false);
                return true;
            }
        }
        for (int i = 0; i < index && i < batch.size(); i++) {
            if (rule.isClash(row, batch.get(i))) {
                rejection.note(index, number, i, true);
                return true;
            }
        }
        return false;
    }

    private static boolean breaksSome(ArrayList<Rule> rules, Row row) {
        for (int i = 0; i < rules.size(); i++) {
            Rule rule = rules.get(i);
            if (!rule.isDropped && rule.isBrokenBy(row)) {
                return true;
            }
        }
        return false;
    }

    private static boolean clashBySome(ArrayList<Rule> rules, Row row, Row other) {
        for (int i = 0; i < rules.size(); i++) {
            Rule rule = rules.get(i);
            if (!rule.isDropped && rule.isClash(row, other)) {
                return true;
            }
        }
        return false;
    }

    private int bestRepair() {
        conflicts.find(table, rules);
        return bestFrom(conflicts, 0, 0, conflicts.everyRow());
    }

    /**
     * Decides the rows from a position on, after the rows before it have been decided, and returns the best repair of
     * the one found so far and those that go on from here. A row is kept first and removed second, so that of repairs
     * with as many rows the one that comes first is found first, and only one with fewer rows takes its place.
     */
    private static int bestFrom(Conflicts conflicts, int position, int removed, int best) {
        if (Integer.bitCount(removed) >= Integer.bitCount(best)) {
            return best;
        }
        if (position >= conflicts.size) {
            return removed;
        }
        int found = best;
        if (conflicts.mayStay(position, removed)) {
            found = bestFrom(conflicts, position + 1, removed, found);
        }
        return bestFrom(conflicts, position + 1, removed | 1 << position, found);
    }

    private boolean isDeterminedInClasses(int set, int column) {
        if (isIn(column, set)) {
            return false;
        }
        partition.divide(table, set);
        return partition.isEachClassEqualIn(table, column);
    }

    private boolean isDeterminedInPairs(int set, int column) {
        if (isIn(column, set)) {
            return false;
        }
        for (int i = 0; i < table.size(); i++) {
            Row row = table.get(i);
            for (int j = 0; j < i; j++) {
                Row other = table.get(j);
                if (row.value(column) != other.value(column) && row.isEqualIn(set, other)) {
                    return false;
                }
            }
        }
        return true;
    }

    private boolean isTellingRowsApart(int set) {
        partition.divide(table, set);
        return partition.isEachRowAlone();
    }

    /** A larger set than a minimal one need not be looked at: it cannot be minimal any more. */
    private long minimalSets(int column) {
        long minimal = 0;
        for (int level = 0; level <= COLUMNS; level++) {
            for (int set = 0; set < SETS; set++) {
                if (Integer.bitCount(set) == level && !holdsOther(set, minimal) && isDeterminedInClasses(set, column)) {
                    minimal |= 1L << set;
                }
            }
        }
        return minimal;
    }

    private static boolean isSetIn(int set, long sets) {
        return (sets >> set & 1L) == 1L;
    }

    /** Tells whether one of the sets results when one or more columns are taken out of a set. */
    private static boolean holdsOther(int set, long sets) {
        for (int smaller = 0; smaller < set; smaller++) {
            if ((smaller & set) == smaller && isSetIn(smaller, sets)) {
                return true;
            }
        }
        return false;
    }

    /** The set at a position, where sets with fewer columns come first, and of as many columns the smaller number. */
    private static int setInOrder(long sets, int position) {
        int passed = 0;
        for (int level = 0; level <= COLUMNS; level++) {
            for (int set = 0; set < SETS; set++) {
                if (Integer.bitCount(set) == level && isSetIn(set, sets)) {
                    if (passed == position) {
                        return set;
                    }
                    passed++;
                }
            }
        }
        return NONE;
    }

    private int presentCount(int column) {
        int present = 0;
        for (int i = 0; i < table.size(); i++) {
            if (table.get(i).isPresent(column)) {
                present++;
            }
        }
        return present;
    }

    private int columnMedian(int column) {
        numbers.clear();
        for (int i = 0; i < table.size(); i++) {
            Row row = table.get(i);
            if (row.isPresent(column)) {
                numbers.insert(row.value(column));
            }
        }
        return numbers.middle();
    }

    private int columnSpread(int column, int median) {
        numbers.clear();
        for (int i = 0; i < table.size(); i++) {
            Row row = table.get(i);
            if (row.isPresent(column)) {
                numbers.insert(row.distance(column, median));
            }
        }
        return numbers.middle();
    }

    private static boolean isFar(Row row, int column, int median, int limit) {
        return row.isPresent(column) && row.distance(column, median) > limit;
    }

    private int rowsInBucket(int column, int bucket) {
        int count = 0;
        for (int i = 0; i < table.size(); i++) {
            if (table.get(i).bucket(column) == bucket) {
                count++;
            }
        }
        return count;
    }

    private int driftFromProfile(int column) {
        int tableRows = table.size();
        if (tableRows == 0 || profileRows == 0) {
            return 0;
        }
        int sum = 0;
        for (int bucket = 0; bucket < BUCKETS; bucket++) {
            int inTable = rowsInBucket(column, bucket);
            sum += Math.abs(inTable * profileRows - profile[column][bucket] * tableRows);
        }
        return 1000 * sum / (2 * tableRows * profileRows);
    }

    /** A row, staged or of the table; its id is given when it is added to the table. */
    private static final class Row {
        private final int[] values;
        private int id;

        Row(int a, int b, int c, int d, int e) {
            values = new int[] {a, b, c, d, e};
            id = NONE;
        }

        int value(int column) {
            return column >= 0 && column < values.length ? values[column] : MISSING;
        }

        void put(int column, int value) {
            if (column >= 0 && column < values.length) {
                values[column] = value;
            }
        }

        boolean isPresent(int column) {
            return column >= 0 && column < values.length && values[column] != MISSING;
        }

        boolean isEqualIn(int set, Row other) {
            for (int column = 0; column < values.length && column < other.values.length; column++) {
                if ((set >> column & 1) == 1 && values[column] != other.values[column]) {
                    return false;
                }
            }
            return true;
        }

        int distance(int column, int median) {
            return Math.abs(value(column) - median);
        }

        int bucket(int column) {
            return isPresent(column) ? (value(column) + 100) / BUCKET_WIDTH : MISSING_BUCKET;
        }
    }

    /** A rule: a row rule overrides isBrokenBy, and a pair rule isClash. */
    private abstract static class Rule {
        private final boolean isStrict;
        private boolean isDropped;

        Rule(boolean isStrict) {
            this.isStrict = isStrict;
        }

        boolean isBrokenBy(Row row) {
            return false;
        }

        boolean isClash(Row row, Row other) {
            return false;
        }
    }

    private static final class RangeRule extends Rule {
        private final int column;
        private final int low;
        private final int high;

        RangeRule(int column, int low, int high, boolean isStrict) {
            super(isStrict);
            this.column = column;
            this.low = low;
            this.high = high;
        }

        boolean isBrokenBy(Row row) {
            return row.isPresent(column) && (row.value(column) < low || row.value(column) > high);
        }
    }

    private static final class RequiredRule extends Rule {
        private final int column;

        RequiredRule(int column, boolean isStrict) {
            super(isStrict);
            this.column = column;
        }

        boolean isBrokenBy(Row row) {
            return !row.isPresent(column);
        }
    }

    private static final class OrderRule extends Rule {
        private final int first;
        private final int second;

        OrderRule(int first, int second, boolean isStrict) {
            super(isStrict);
            this.first = first;
            this.second = second;
        }

        boolean isBrokenBy(Row row) {
            return row.isPresent(first) && row.isPresent(second) && row.value(first) > row.value(second);
        }
    }

    private static final class UniqueRule extends Rule {
        private final int column;

        UniqueRule(int column, boolean isStrict) {
            super(isStrict);
            this.column = column;
        }

        boolean isClash(Row row, Row other) {
            return row.isPresent(column) && row.value(column) == other.value(column);
        }
    }

    private static final class DependencyRule extends Rule {
        private final int set;
        private final int column;

        DependencyRule(int set, int column, boolean isStrict) {
            super(isStrict);
            this.set = set;
            this.column = column;
        }

        boolean isClash(Row row, Row other) {
            return row.value(column) != other.value(column) && row.isEqualIn(set, other);
        }
    }

    /** The latest rejection; its index is NONE before the first one, its other row NONE if it was at a row rule. */
    private static final class Rejection {
        private int index;
        private int rule;
        private int other;
        private boolean isInBatch;

        Rejection() {
            index = NONE;
            rule = NONE;
            other = NONE;
        }

        void note(int index, int rule, int other, boolean isInBatch) {
            this.index = index;
            this.rule = rule;
            this.other = other;
            this.isInBatch = isInBatch;
        }
    }

    /** The bad rows and the conflicts of the table, as they stood when they were looked for. */
    private static final class Conflicts {
        /** For each position, the set of the rows with which the row conflicts. */
        private final int[] partners = new int[MOST_ROWS];
        private int bad;
        private int size;

        void find(ArrayList<Row> rows, ArrayList<Rule> rules) {
            size = Math.min(rows.size(), partners.length);
            bad = 0;
            for (int i = 0; i < size; i++) {
                Row row = rows.get(i);
                if (breaksSome(rules, row)) {
                    bad |= 1 << i;
                }
                partners[i] = 0;
                for (int j = 0; j < i; j++) {
                    if (clashBySome(rules, row, rows.get(j))) {
                        partners[i] |= 1 << j;
                        partners[j] |= 1 << i;
                    }
                }
            }
        }

        int everyRow() {
            return (1 << size) - 1;
        }

        /** The set of the rows of the group of a row. */
        int reachedFrom(int position) {
            int reached = 1 << position;
            // each round reaches one more row at least, or no later round reaches any
            for (int round = 0; round < size; round++) {
                for (int i = 0; i < size; i++) {
                    if (isIn(i, reached)) {
                        reached |= partners[i];
                    }
                }
            }
            return reached;
        }

        /** Tells whether a row may be kept, by itself and beside the rows before it that are kept. */
        boolean mayStay(int position, int removed) {
            if (position < 0 || position >= size || isIn(position, bad)) {
                return false;
            }
            int keptBefore = (1 << position) - 1 & ~removed;
            return (partners[position] & keptBefore) == 0;
        }

        boolean isRepairedBy(int removed) {
            if ((bad & ~removed) != 0) {
                return false;
            }
            for (int i = 0; i < size; i++) {
                if (!isIn(i, removed) && (partners[i] & ~removed) != 0) {
                    return false;
                }
            }
            return true;
        }
    }

    /** The rows of the table, divided into classes of rows that are equal in a set of columns. */
    private static final class Partition {
        /** For each position, the first position of its class. */
        private final int[] firsts = new int[MOST_ROWS];
        private int size;

        void divide(ArrayList<Row> rows, int set) {
            size = Math.min(rows.size(), firsts.length);
            for (int i = 0; i < size; i++) {
                firsts[i] = i;
                for (int j = 0; j < i; j++) {
                    if (firsts[j] == j && rows.get(i).isEqualIn(set, rows.get(j))) {
                        firsts[i] = j;
                        break;
                    }
                }
            }
        }

        boolean isEachRowAlone() {
            for (int i = 0; i < size; i++) {
                if (firsts[i] != i) {
                    return false;
                }
            }
            return true;
        }

        boolean isEachClassEqualIn(ArrayList<Row> rows, int column) {
            for (int first = 0; first < size; first++) {
                for (int i = first + 1; i < size; i++) {
                    if (firsts[i] == first && rows.get(i).value(column) != rows.get(first).value(column)) {
                        return false;
                    }
                }
            }
            return true;
        }

        /** In each class, the rows with its most frequent value in the column may stay, and the others must go. */
        int removalsToDetermine(ArrayList<Row> rows, int column) {
            int removals = 0;
            for (int first = 0; first < size; first++) {
                if (firsts[first] == first) {
                    removals += removalsInClass(rows, first, column);
                }
            }
            return removals;
        }

        private int removalsInClass(ArrayList<Row> rows, int first, int column) {
            int members = 0;
            int mostEqual = 0;
            for (int i = first; i < size; i++) {
                if (firsts[i] == first) {
                    members++;
                    mostEqual = Math.max(mostEqual, equalInClass(rows, first, column, rows.get(i).value(column)));
                }
            }
            return members - mostEqual;
        }

        private int equalInClass(ArrayList<Row> rows, int first, int column, int value) {
            int equal = 0;
            for (int i = 0; i < size; i++) {
                if (firsts[i] == first && rows.get(i).value(column) == value) {
                    equal++;
                }
            }
            return equal;
        }
    }

    /** Some numbers in ascending order, one for each row of the table at most. */
    private static final class SortedNumbers {
        private final int[] numbers = new int[MOST_ROWS];
        private int size;

        void clear() {
            size = 0;
        }

        void insert(int number) {
            if (size >= numbers.length) {
                return;
            }
            int place = size;
            while (place > 0 && numbers[place - 1] > number) {
                numbers[place] = numbers[place - 1];
                place--;
            }
            numbers[place] = number;
            size++;
        }

        /** The number in the middle, the smaller one of two; 0 if there are none, when no value is far from it. */
        int middle() {
            return size == 0 ? 0 : numbers[(size - 1) / 2];
        }
    }
}
