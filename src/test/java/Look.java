/** Asks a gate everything that can be asked without changing it, and counts the calls. */
final class Look {
    private static final int[] SETS = {0, 1, 6, 16, 30};

    private final QualityGate gate;
    private final StringBuilder text = new StringBuilder();
    private int calls;

    Look(QualityGate gate) {
        this.gate = gate;
    }

    /** All answers, the recorded rejection too. */
    String all() {
        ask("rejectedRow", gate::rejectedRow);
        ask("rejectedRule", gate::rejectedRule);
        ask("rejectedOther", gate::rejectedOther);
        ask("isOtherStaged", gate::isOtherStaged);
        return allButRejection();
    }

    /** All answers but those about the recorded rejection. */
    String allButRejection() {
        ask("staged", gate::staged);
        rows();
        rules();
        sets();
        figures();
        return text.toString();
    }

    int calls() {
        return calls;
    }

    private void ask(String name, Check.Call call) {
        calls++;
        text.append(name).append(' ').append(Check.outcome(call)).append('\n');
    }

    private void rows() {
        ask("rowCount", gate::rowCount);
        for (int position = 0; position < gate.rowCount(); position++) {
            calls += 2;
            int id = gate.rowAt(position);
            ask("id " + id + " isBad", () -> gate.isBad(id));
            ask("groupSize", () -> gate.groupSize(id));
            ask("isInRepair", () -> gate.isInRepair(id));
            for (int column = 0; column < 5; column++) {
                int at = column;
                ask("valueAt " + column, () -> gate.valueAt(id, at));
            }
        }
    }

    private void rules() {
        for (int rule = 0; rule <= 10; rule++) {
            int number = rule;
            ask("violations " + rule, () -> gate.violations(number));
        }
        ask("groups", gate::groups);
        ask("fewestRemovals", gate::fewestRemovals);
    }

    private void sets() {
        for (int set : SETS) {
            ask("closureOf " + set, () -> gate.closureOf(set));
        }
        ask("smallestKey", gate::smallestKey);
        ask("isConsistent", gate::isConsistent);
    }

    private void figures() {
        for (int column = 0; column < 5; column++) {
            int at = column;
            ask("minimalCount " + column, () -> gate.minimalCount(at));
            ask("medianOf", () -> gate.medianOf(at));
            ask("spreadOf", () -> gate.spreadOf(at));
            ask("outliers", () -> gate.outliers(at));
            ask("drift", () -> gate.drift(at));
            ask("meanOf", () -> gate.meanOf(at));
            ask("missingShare", () -> gate.missingShare(at));
        }
        ask("mostDrifted", gate::mostDrifted);
    }
}
