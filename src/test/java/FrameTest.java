import java.util.List;
import java.util.Set;

/** What a call changes, and that it changes nothing else: each call is held against a twin to which it was not made. */
final class FrameTest {
    private static final int M = Gates.M;

    private final Check check;

    FrameTest(Check check) {
        this.check = check;
    }

    private interface Maker {
        QualityGate make();
    }

    private interface GateCall {
        Object on(QualityGate gate);
    }

    /** A part of what a gate holds, and the calls that tell it; they may change the gate, which is not used again. */
    private static final class Part {
        private final String name;
        private final GateCall telling;

        Part(String name, GateCall telling) {
            this.name = name;
            this.telling = telling;
        }
    }

    private static final List<Part> PARTS = List.of(new Part("rows", FrameTest::rows),
            new Part("next id", FrameTest::nextId), new Part("batch", FrameTest::batch),
            new Part("rules", FrameTest::rules), new Part("rejection", FrameTest::rejection),
            new Part("factor", gate -> gate.setFactor(3)), new Part("profile", FrameTest::profile));

    void run() {
        tableCalls();
        ruleCalls();
        otherCalls();
        askingRows();
        askingSetsAndFigures();
    }

    // ---- the parts

    private static String rows(QualityGate gate) {
        StringBuilder text = new StringBuilder();
        for (int position = 0; position < gate.rowCount(); position++) {
            int id = gate.rowAt(position);
            text.append(id).append(": ").append(Gates.values(gate, id)).append('\n');
        }
        return text.toString();
    }

    private static void emptyTable(QualityGate gate) {
        while (gate.rowCount() > 0) {
            gate.removeRow(gate.rowAt(0));
        }
    }

    private static void dropRules(QualityGate gate) {
        for (int rule = 0; rule < 10; rule++) {
            int number = rule;
            Check.outcome(() -> gate.dropRule(number));
        }
    }

    private static Object nextId(QualityGate gate) {
        gate.discard();
        dropRules(gate);
        emptyTable(gate);
        Gates.add(gate, Gates.row(1, 1, 1, 1, 1));
        return gate.rowAt(0);
    }

    private static String batch(QualityGate gate) {
        int staged = gate.staged();
        dropRules(gate);
        emptyTable(gate);
        Check.outcome(gate::commit);
        StringBuilder text = new StringBuilder().append(staged).append('\n');
        for (int position = 0; position < gate.rowCount(); position++) {
            text.append(Gates.values(gate, gate.rowAt(position))).append('\n');
        }
        return text.toString();
    }

    /** The strict rules that reject rows which break rules of each kind, and how often those rows violate each rule. */
    private static String rules(QualityGate gate) {
        gate.discard();
        emptyTable(gate);
        Gates.stageColumn(gate, 7, M, 7);
        StringBuilder text = new StringBuilder();
        while (Check.outcome(gate::commit).equals("throws.UnsupportedOperationException")) {
            int strict = gate.rejectedRule();
            text.append("strict ").append(strict).append('\n');
            gate.dropRule(strict);
        }
        for (int rule = 0; rule <= 10; rule++) {
            int number = rule;
            text.append(rule).append(' ').append(Check.outcome(() -> gate.violations(number))).append('\n');
        }
        return text.toString();
    }

    private static String rejection(QualityGate gate) {
        return Check.outcome(gate::rejectedRow) + " " + Check.outcome(gate::rejectedRule) + " "
                + Check.outcome(gate::rejectedOther) + " " + Check.outcome(gate::isOtherStaged);
    }

    private static String profile(QualityGate gate) {
        gate.discard();
        dropRules(gate);
        emptyTable(gate);
        Gates.add(gate, Gates.row(5, 5, 5, 5, 5));
        StringBuilder text = new StringBuilder();
        for (int value : new int[] {M, -90, -50, -30, 10, 50, 90}) {
            for (int column = 0; column < 5; column++) {
                int at = column;
                gate.setValue(gate.rowAt(0), column, value);
                text.append(Check.outcome(() -> gate.drift(at))).append(' ');
            }
        }
        return text.toString();
    }

    // ---- the gates

    /** A gate with five rows, three staged ones that pass, rules of each kind, a rejection, a profile and a factor. */
    private static QualityGate used() {
        QualityGate gate = Gates.with(Gates.row(1, 2, 3, 4, 5), Gates.row(2, 2, M, -40, 50), Gates.row(3, 9, 3, M, 5),
                Gates.row(4, 9, 3, M, 99));
        gate.saveProfile();
        Gates.add(gate, Gates.row(5, 2, 3, 4, -99));
        gate.addUnique(0, true);
        gate.addRange(1, 0, 5, false);
        gate.addRequired(4, true);
        gate.addDependency(2, 2, false);
        gate.addOrder(3, 2, false);
        gate.dropRule(2);
        Gates.stageColumn(gate, 6, 3);
        Check.outcome(gate::commit);
        gate.discard();
        gate.stage(7, 1, 1, 1, 1);
        gate.stage(8, M, 2, 2, M);
        gate.stage(9, 3, 3, 90, 3);
        gate.setFactor(2);
        return gate;
    }

    /** As the one above, but for the last staged row, at which a commit is rejected. */
    private static QualityGate failing() {
        QualityGate gate = used();
        gate.stage(8, 3, 3, 90, 3);
        return gate;
    }

    /** A gate with one row and a full batch. */
    private static QualityGate oneRow() {
        QualityGate gate = used();
        gate.removeRow(4);
        gate.removeRow(3);
        gate.removeRow(1);
        gate.removeRow(0);
        Gates.stageColumn(gate, 20, 21, 22);
        return gate;
    }

    // ---- the calls

    private void changes(String name, Maker maker, GateCall call, String... changed) {
        check.test(name + " changes " + String.join(", ", changed) + " and nothing else");
        Set<String> allowed = Set.of(changed);
        for (Part part : PARTS) {
            QualityGate gate = maker.make();
            Check.outcome(() -> call.on(gate));
            Object before = part.telling.on(maker.make());
            Object after = part.telling.on(gate);
            boolean isSame = before.equals(after);
            check.due(part.name + (allowed.contains(part.name) ? " changes" : " stays"),
                    part.name + (isSame ? " stays" : " changes"));
        }
    }

    private void changesNothing(String name, GateCall call) {
        for (Maker maker : List.<Maker>of(FrameTest::used, FrameTest::failing, FrameTest::oneRow, QualityGate::new)) {
            changes(name, maker, call);
        }
    }

    private void tableCalls() {
        changes("stage", FrameTest::used, gate -> gate.stage(1, 2, 3, 4, 5), "batch");
        changes("stage", QualityGate::new, gate -> gate.stage(1, 2, 3, 4, 5), "batch");
        changes("commit", FrameTest::used, QualityGate::commit, "rows", "next id", "batch");
        changes("a rejected commit", FrameTest::failing, QualityGate::commit, "rejection");
        changes("discard", FrameTest::used, QualityGate::discard, "batch");
        changes("removeRow", FrameTest::used, gate -> gate.removeRow(4), "rows");
        changes("removeRow", FrameTest::oneRow, gate -> gate.removeRow(2), "rows");
        for (int at = 0; at < 5; at++) {
            int column = at;
            changes("setValue", FrameTest::used, gate -> gate.setValue(1, column, 60), "rows");
            changes("setValue", FrameTest::oneRow, gate -> gate.setValue(2, column, -60), "rows");
        }
        changes("repair", FrameTest::used, QualityGate::repair, "rows");
        changes("repair", FrameTest::oneRow, QualityGate::repair, "rows");
    }

    private void ruleCalls() {
        changes("addRange", FrameTest::used, gate -> gate.addRange(0, -9, 6, true), "rules");
        changes("addRange", FrameTest::used, gate -> gate.addRange(0, -9, 6, false), "rules");
        changes("addRequired", FrameTest::used, gate -> gate.addRequired(0, true), "rules");
        changes("addOrder", FrameTest::used, gate -> gate.addOrder(0, 1, true), "rules");
        changes("addUnique", FrameTest::used, gate -> gate.addUnique(1, true), "rules");
        changes("addDependency", FrameTest::used, gate -> gate.addDependency(2, 0, true), "rules");
        for (int rule : new int[] {0, 1, 3, 4}) {
            changes("dropRule", FrameTest::used, gate -> gate.dropRule(rule), "rules");
        }
    }

    private void otherCalls() {
        changes("setFactor", FrameTest::used, gate -> gate.setFactor(9), "factor");
        changes("setFactor", QualityGate::new, gate -> gate.setFactor(1), "factor");
        changes("saveProfile", FrameTest::used, QualityGate::saveProfile, "profile");
        changes("saveProfile", FrameTest::oneRow, QualityGate::saveProfile, "profile");
    }

    private void askingRows() {
        changesNothing("staged", QualityGate::staged);
        changesNothing("rejectedRow", QualityGate::rejectedRow);
        changesNothing("rejectedRule", QualityGate::rejectedRule);
        changesNothing("rejectedOther", QualityGate::rejectedOther);
        changesNothing("isOtherStaged", QualityGate::isOtherStaged);
        changesNothing("valueAt", gate -> gate.valueAt(2, 1));
        changesNothing("rowCount", QualityGate::rowCount);
        changesNothing("rowAt", gate -> gate.rowAt(0));
        changesNothing("violations", gate -> gate.violations(3));
        changesNothing("isBad", gate -> gate.isBad(2));
        changesNothing("conflict", gate -> gate.conflict(2, 3));
        changesNothing("groups", QualityGate::groups);
        changesNothing("groupSize", gate -> gate.groupSize(2));
        changesNothing("fewestRemovals", QualityGate::fewestRemovals);
        changesNothing("fewestRemovalsByTrying", QualityGate::fewestRemovalsByTrying);
        changesNothing("isInRepair", gate -> gate.isInRepair(2));
    }

    private void askingSetsAndFigures() {
        changesNothing("determines", gate -> gate.determines(3, 4));
        changesNothing("determinesByPairs", gate -> gate.determinesByPairs(3, 4));
        changesNothing("minimalCount", gate -> gate.minimalCount(4));
        changesNothing("minimalCountByTrying", gate -> gate.minimalCountByTrying(4));
        changesNothing("minimalAt", gate -> gate.minimalAt(4, 0));
        changesNothing("closureOf", gate -> gate.closureOf(3));
        changesNothing("isKey", gate -> gate.isKey(3));
        changesNothing("smallestKey", QualityGate::smallestKey);
        changesNothing("errorOf", gate -> gate.errorOf(2, 2));
        changesNothing("medianOf", gate -> gate.medianOf(0));
        changesNothing("spreadOf", gate -> gate.spreadOf(0));
        changesNothing("isOutlier", gate -> gate.isOutlier(2, 0));
        changesNothing("outliers", gate -> gate.outliers(0));
        changesNothing("drift", gate -> gate.drift(0));
        changesNothing("mostDrifted", QualityGate::mostDrifted);
        changesNothing("meanOf", gate -> gate.meanOf(0));
        changesNothing("missingShare", gate -> gate.missingShare(0));
        changesNothing("isConsistent", QualityGate::isConsistent);
    }
}
