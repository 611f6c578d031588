import java.util.ArrayList;
import java.util.Collections;
import java.util.HashMap;
import java.util.HashSet;
import java.util.List;
import java.util.Map;
import java.util.NoSuchElementException;
import java.util.Set;
import java.util.TreeMap;
import java.util.function.BiPredicate;
import java.util.function.Predicate;

/** The document once more, in the plainest words and with the whole Java library, to hold the class against. */
final class Model {
    private static final int MISSING = 100;

    /** A rule; the one of the two tests that its kind does not have is null. */
    private static final class Rule {
        final Predicate<int[]> broken;
        final BiPredicate<int[], int[]> clash;
        final boolean isStrict;
        boolean isDropped;

        Rule(Predicate<int[]> broken, BiPredicate<int[], int[]> clash, boolean isStrict) {
            this.broken = broken;
            this.clash = clash;
            this.isStrict = isStrict;
        }
    }

    private final TreeMap<Integer, int[]> table = new TreeMap<>();
    private final List<int[]> batch = new ArrayList<>();
    private final List<Rule> rules = new ArrayList<>();
    private final List<int[]> profile = new ArrayList<>();
    private int nextId;
    private int factor = 3;
    private Integer rejectedIndex;
    private Integer rejectedRule;
    private Integer rejectedOther;
    private boolean isOtherStaged;

    Object stage(int... values) {
        for (int value : values) {
            needValue(value);
        }
        if (batch.size() == 6) {
            throw new IllegalStateException();
        }
        batch.add(values);
        return batch.size();
    }

    Object commit() {
        if (batch.isEmpty() || table.size() + batch.size() > 12) {
            throw new IllegalStateException();
        }
        for (int index = 0; index < batch.size(); index++) {
            for (int number = 0; number < rules.size(); number++) {
                if (rules.get(number).isStrict && !rules.get(number).isDropped) {
                    checkStrict(index, number);
                }
            }
        }
        for (int[] row : batch) {
            table.put(nextId++, row);
        }
        batch.clear();
        return table.size();
    }

    private void checkStrict(int index, int number) {
        Rule rule = rules.get(number);
        int[] row = batch.get(index);
        if (rule.broken != null && rule.broken.test(row)) {
            reject(index, number, null, false);
        }
        if (rule.clash == null) {
            return;
        }
        for (Map.Entry<Integer, int[]> other : table.entrySet()) {
            if (rule.clash.test(row, other.getValue())) {
                reject(index, number, other.getKey(), false);
            }
        }
        for (int other = 0; other < index; other++) {
            if (rule.clash.test(row, batch.get(other))) {
                reject(index, number, other, true);
            }
        }
    }

    private void reject(int index, int number, Integer other, boolean staged) {
        rejectedIndex = index;
        rejectedRule = number;
        rejectedOther = other;
        isOtherStaged = staged;
        throw new UnsupportedOperationException();
    }

    Object discard() {
        int size = batch.size();
        batch.clear();
        return size;
    }

    Object staged() {
        return batch.size();
    }

    Object rejectedRow() {
        return needThere(rejectedIndex);
    }

    Object rejectedRule() {
        return needThere(rejectedRule);
    }

    Object rejectedOther() {
        return needThere(rejectedOther);
    }

    Object isOtherStaged() {
        needThere(rejectedOther);
        return isOtherStaged;
    }

    Object removeRow(int id) {
        needRow(id);
        table.remove(id);
        return table.size();
    }

    Object setValue(int id, int column, int value) {
        int[] row = needRow(id);
        needColumn(column);
        needValue(value);
        int before = row[column];
        row[column] = value;
        return before;
    }

    Object valueAt(int id, int column) {
        int[] row = needRow(id);
        needColumn(column);
        return row[column];
    }

    Object rowCount() {
        return table.size();
    }

    Object rowAt(int position) {
        if (position < 0 || position >= table.size()) {
            throw new IndexOutOfBoundsException();
        }
        return new ArrayList<>(table.keySet()).get(position);
    }

    Object addRange(int column, int low, int high, boolean isStrict) {
        needColumn(column);
        if (low < -99 || low > 99 || high < low || high > 99) {
            throw new IllegalArgumentException();
        }
        return added(new Rule(r -> r[column] != MISSING && (r[column] < low || r[column] > high), null, isStrict));
    }

    Object addRequired(int column, boolean isStrict) {
        needColumn(column);
        return added(new Rule(r -> r[column] == MISSING, null, isStrict));
    }

    Object addOrder(int first, int second, boolean isStrict) {
        needColumn(first);
        needColumn(second);
        if (first == second) {
            throw new IllegalArgumentException();
        }
        return added(new Rule(r -> r[first] != MISSING && r[second] != MISSING && r[first] > r[second], null,
                isStrict));
    }

    Object addUnique(int column, boolean isStrict) {
        needColumn(column);
        return added(new Rule(null, (r, s) -> r[column] != MISSING && s[column] != MISSING && r[column] == s[column],
                isStrict));
    }

    Object addDependency(int set, int column, boolean isStrict) {
        needColumn(column);
        needSet(set);
        if (columns(set).contains(column)) {
            throw new IllegalArgumentException();
        }
        return added(new Rule(null, (r, s) -> part(r, set).equals(part(s, set)) && r[column] != s[column], isStrict));
    }

    Object dropRule(int number) {
        needRule(number).isDropped = true;
        return (int) rules.stream().filter(r -> !r.isDropped).count();
    }

    Object violations(int number) {
        Rule rule = needRule(number);
        int count = 0;
        for (int id : table.keySet()) {
            if (rule.broken != null && rule.broken.test(table.get(id))) {
                count++;
            }
            for (int other : table.tailMap(id, false).keySet()) {
                if (rule.clash != null && rule.clash.test(table.get(id), table.get(other))) {
                    count++;
                }
            }
        }
        return count;
    }

    Object isBad(int id) {
        return bad(needRow(id));
    }

    private boolean bad(int[] row) {
        return rules.stream().anyMatch(r -> !r.isDropped && r.broken != null && r.broken.test(row));
    }

    Object conflict(int id, int other) {
        int[] row = needRow(id);
        int[] otherRow = needRow(other);
        if (id == other) {
            throw new IllegalArgumentException();
        }
        return clash(row, otherRow);
    }

    private boolean clash(int[] row, int[] other) {
        return rules.stream().anyMatch(r -> !r.isDropped && r.clash != null && r.clash.test(row, other));
    }

    Object groups() {
        Set<Set<Integer>> groups = new HashSet<>();
        for (int id : table.keySet()) {
            groups.add(group(id));
        }
        return groups.size();
    }

    Object groupSize(int id) {
        needRow(id);
        return group(id).size();
    }

    private Set<Integer> group(int id) {
        Set<Integer> group = new HashSet<>();
        List<Integer> open = new ArrayList<>(List.of(id));
        while (!open.isEmpty()) {
            int next = open.remove(0);
            if (group.add(next)) {
                for (int other : table.keySet()) {
                    if (other != next && clash(table.get(next), table.get(other))) {
                        open.add(other);
                    }
                }
            }
        }
        return group;
    }

    Object fewestRemovals() {
        return bestRepair().size();
    }

    Object isInRepair(int id) {
        needRow(id);
        return bestRepair().contains(id);
    }

    Object repair() {
        Set<Integer> best = bestRepair();
        table.keySet().removeAll(best);
        return best.size();
    }

    private Set<Integer> bestRepair() {
        List<Integer> ids = new ArrayList<>(table.keySet());
        boolean[][] clashes = new boolean[ids.size()][ids.size()];
        boolean[] bad = new boolean[ids.size()];
        for (int i = 0; i < ids.size(); i++) {
            bad[i] = bad(table.get(ids.get(i)));
            for (int j = 0; j < ids.size(); j++) {
                clashes[i][j] = i != j && clash(table.get(ids.get(i)), table.get(ids.get(j)));
            }
        }
        boolean[] best = null;
        for (int choice = 0; choice < 1 << ids.size(); choice++) {
            boolean[] removed = new boolean[ids.size()];
            for (int i = 0; i < ids.size(); i++) {
                removed[i] = (choice & 1 << i) != 0;
            }
            if (isRepair(removed, bad, clashes) && (best == null || comesBefore(removed, best))) {
                best = removed;
            }
        }
        Set<Integer> repair = new HashSet<>();
        for (int i = 0; i < ids.size(); i++) {
            if (best[i]) {
                repair.add(ids.get(i));
            }
        }
        return repair;
    }

    private static boolean isRepair(boolean[] removed, boolean[] bad, boolean[][] clashes) {
        for (int i = 0; i < removed.length; i++) {
            for (int j = 0; j < removed.length; j++) {
                if (!removed[i] && (bad[i] || clashes[i][j] && !removed[j])) {
                    return false;
                }
            }
        }
        return true;
    }

    private static boolean comesBefore(boolean[] repair, boolean[] other) {
        int more = 0;
        for (int i = 0; i < repair.length; i++) {
            more += (repair[i] ? 1 : 0) - (other[i] ? 1 : 0);
        }
        if (more != 0) {
            return more < 0;
        }
        for (int i = 0; i < repair.length; i++) {
            if (repair[i] != other[i]) {
                return other[i];
            }
        }
        return false;
    }

    Object determines(int set, int column) {
        needSet(set);
        needColumn(column);
        return determined(set, column);
    }

    private boolean determined(int set, int column) {
        Map<List<Integer>, Integer> seen = new HashMap<>();
        for (int[] row : table.values()) {
            Integer before = seen.putIfAbsent(part(row, set), row[column]);
            if (before != null && before != row[column]) {
                return false;
            }
        }
        return !columns(set).contains(column);
    }

    Object minimalCount(int column) {
        needColumn(column);
        return minimalSets(column).size();
    }

    Object minimalAt(int column, int position) {
        needColumn(column);
        List<Integer> sets = minimalSets(column);
        if (position < 0 || position >= sets.size()) {
            throw new IndexOutOfBoundsException();
        }
        return sets.get(position);
    }

    private List<Integer> minimalSets(int column) {
        List<Integer> determining = new ArrayList<>();
        for (int set = 0; set < 32; set++) {
            if (determined(set, column)) {
                determining.add(set);
            }
        }
        List<Integer> minimal = new ArrayList<>();
        for (int set : determining) {
            if (determining.stream().noneMatch(s -> s != set && columns(set).containsAll(columns(s)))) {
                minimal.add(set);
            }
        }
        minimal.sort(Model::bySizeAndNumber);
        return minimal;
    }

    private static int bySizeAndNumber(int set, int other) {
        int bySize = Integer.compare(columns(set).size(), columns(other).size());
        return bySize != 0 ? bySize : Integer.compare(set, other);
    }

    Object closureOf(int set) {
        needSet(set);
        int closure = 0;
        for (int column = 0; column < 5; column++) {
            if (columns(set).contains(column) || determined(set, column)) {
                closure += 1 << column;
            }
        }
        return closure;
    }

    Object isKey(int set) {
        needSet(set);
        return key(set);
    }

    private boolean key(int set) {
        Set<List<Integer>> parts = new HashSet<>();
        table.values().forEach(row -> parts.add(part(row, set)));
        return parts.size() == table.size();
    }

    Object smallestKey() {
        List<Integer> keys = new ArrayList<>();
        for (int set = 0; set < 32; set++) {
            if (key(set)) {
                keys.add(set);
            }
        }
        keys.sort(Model::bySizeAndNumber);
        return needThere(keys.isEmpty() ? null : keys.get(0));
    }

    Object errorOf(int set, int column) {
        needColumn(column);
        needSet(set);
        if (columns(set).contains(column)) {
            throw new IllegalArgumentException();
        }
        Map<List<Integer>, Map<Integer, Integer>> counts = new HashMap<>();
        for (int[] row : table.values()) {
            counts.computeIfAbsent(part(row, set), p -> new HashMap<>()).merge(row[column], 1, Integer::sum);
        }
        int kept = 0;
        for (Map<Integer, Integer> count : counts.values()) {
            kept += Collections.max(count.values());
        }
        return table.size() - kept;
    }

    Object setFactor(int next) {
        if (next < 1 || next > 9) {
            throw new IllegalArgumentException();
        }
        int before = factor;
        factor = next;
        return before;
    }

    Object medianOf(int column) {
        needColumn(column);
        return needThere(median(present(column)));
    }

    Object spreadOf(int column) {
        needColumn(column);
        return needThere(spread(column));
    }

    private Integer spread(int column) {
        Integer median = median(present(column));
        List<Integer> distances = new ArrayList<>();
        present(column).forEach(value -> distances.add(Math.abs(value - median)));
        return median(distances);
    }

    Object isOutlier(int id, int column) {
        int[] row = needRow(id);
        needColumn(column);
        return far(row, column);
    }

    Object outliers(int column) {
        needColumn(column);
        return (int) table.values().stream().filter(row -> far(row, column)).count();
    }

    private boolean far(int[] row, int column) {
        return row[column] != MISSING
                && Math.abs(row[column] - median(present(column))) > spread(column) * factor;
    }

    private List<Integer> present(int column) {
        List<Integer> present = new ArrayList<>();
        for (int[] row : table.values()) {
            if (row[column] != MISSING) {
                present.add(row[column]);
            }
        }
        return present;
    }

    private static Integer median(List<Integer> numbers) {
        List<Integer> sorted = new ArrayList<>(numbers);
        Collections.sort(sorted);
        if (sorted.isEmpty()) {
            return null;
        }
        return sorted.size() % 2 == 1 ? sorted.get(sorted.size() / 2) : sorted.get(sorted.size() / 2 - 1);
    }

    Object saveProfile() {
        if (table.isEmpty()) {
            throw new IllegalStateException();
        }
        profile.clear();
        table.values().forEach(row -> profile.add(row.clone()));
        return profile.size();
    }

    Object drift(int column) {
        needColumn(column);
        needProfileAndRows();
        return driftOf(column);
    }

    private int driftOf(int column) {
        long sum = 0;
        for (int bucket = 0; bucket <= 10; bucket++) {
            int number = bucket;
            long a = table.values().stream().filter(row -> bucket(row[column]) == number).count();
            long b = profile.stream().filter(row -> bucket(row[column]) == number).count();
            sum += Math.abs(a * profile.size() - b * table.size());
        }
        return (int) (1000 * sum / (2L * table.size() * profile.size()));
    }

    private static int bucket(int value) {
        return value == MISSING ? 10 : Math.floorDiv(value + 100, 20);
    }

    Object mostDrifted() {
        needProfileAndRows();
        int most = 0;
        for (int column = 1; column < 5; column++) {
            if (driftOf(column) > driftOf(most)) {
                most = column;
            }
        }
        return most;
    }

    Object meanOf(int column) {
        needColumn(column);
        List<Integer> present = present(column);
        if (present.isEmpty()) {
            throw new ArithmeticException();
        }
        return (double) present.stream().mapToInt(Integer::intValue).sum() / (double) present.size();
    }

    Object missingShare(int column) {
        needColumn(column);
        if (table.isEmpty()) {
            throw new ArithmeticException();
        }
        return (float) (table.size() - present(column).size()) / (float) table.size();
    }

    private static List<Integer> columns(int set) {
        List<Integer> columns = new ArrayList<>();
        for (int column = 0; column < 5; column++) {
            if (set / (1 << column) % 2 == 1) {
                columns.add(column);
            }
        }
        return columns;
    }

    private static List<Integer> part(int[] row, int set) {
        List<Integer> part = new ArrayList<>();
        columns(set).forEach(column -> part.add(row[column]));
        return part;
    }

    private Object added(Rule rule) {
        if (rules.size() == 10) {
            throw new IllegalStateException();
        }
        rules.add(rule);
        return rules.size() - 1;
    }

    private Rule needRule(int number) {
        if (number < 0 || number >= rules.size()) {
            throw new IndexOutOfBoundsException();
        }
        if (rules.get(number).isDropped) {
            throw new IllegalStateException();
        }
        return rules.get(number);
    }

    private int[] needRow(int id) {
        if (!table.containsKey(id)) {
            throw new NoSuchElementException();
        }
        return table.get(id);
    }

    private void needProfileAndRows() {
        if (profile.isEmpty()) {
            throw new NoSuchElementException();
        }
        if (table.isEmpty()) {
            throw new IllegalStateException();
        }
    }

    private static void needColumn(int column) {
        if (column < 0 || column > 4) {
            throw new IndexOutOfBoundsException();
        }
    }

    private static void needSet(int set) {
        if (set < 0 || set > 31) {
            throw new IllegalArgumentException();
        }
    }

    private static void needValue(int value) {
        if (value < -99 || value > 100) {
            throw new IllegalArgumentException();
        }
    }

    private static Integer needThere(Integer value) {
        if (value == null) {
            throw new NoSuchElementException();
        }
        return value;
    }
}
