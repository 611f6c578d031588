import java.util.NoSuchElementException;

/** Promises 44 to 49: profiles, drift, figures and the check of the two ways. */
final class ProfileTest {
    private static final int M = Gates.M;
    private final Check check;

    ProfileTest(Check check) {
        this.check = check;
    }

    void run() {
        saveProfile();
        drift();
        driftIsRoundedDown();
        buckets();
        driftWrong();
        mostDrifted();
        meanOf();
        missingShare();
        isConsistent();
    }

    private void saveProfile() {
        check.test("promise 44: saveProfile");
        QualityGate gate = new QualityGate();
        check.dueThrow(IllegalStateException.class, gate::saveProfile);
        Gates.add(gate, Gates.row(1, 1, 1, 1, 1));
        check.due(1, gate.saveProfile());
        Gates.add(gate, Gates.row(50, 1, 1, 1, 1));
        check.due(500, gate.drift(0));
        check.due(2, gate.saveProfile());
        check.due(0, gate.drift(0));
        gate.removeRow(0);
        check.due(500, gate.drift(0));
        gate.removeRow(1);
        check.dueThrow(IllegalStateException.class, gate::saveProfile);
        Gates.add(gate, Gates.row(1, 1, 1, 1, 1));
        check.due(500, gate.drift(0));
    }

    private void drift() {
        check.test("promise 45: drift");
        QualityGate gate = Gates.withColumn(1, 2, 30, M);
        gate.saveProfile();
        check.due(0, gate.drift(0));
        gate.setValue(0, 0, 19);
        check.due(0, gate.drift(0));
        gate.setValue(0, 0, 20);
        check.due(250, gate.drift(0));
        gate.setValue(1, 0, M);
        check.due(500, gate.drift(0));
        check.due(0, gate.drift(1));
        for (int id = 0; id < 4; id++) {
            gate.setValue(id, 0, -99);
        }
        check.due(1000, gate.drift(0));
        gate.saveProfile();
        check.due(0, gate.drift(0));
    }

    private void driftIsRoundedDown() {
        check.test("promise 45: drift is rounded down");
        QualityGate gate = Gates.withColumn(1, 50, 90);
        gate.saveProfile();
        gate.setValue(0, 0, M);
        check.due(333, gate.drift(0));
        gate.setValue(1, 0, M);
        check.due(666, gate.drift(0));
        gate.removeRow(0);
        gate.removeRow(1);
        check.due(666, gate.drift(0));
        QualityGate seven = Gates.withColumn(1, 1, 1, 1, 1, 1, 1);
        seven.saveProfile();
        Gates.add(seven, Gates.row(99, 0, 0, 0, 0));
        check.due(125, seven.drift(0));
        Gates.add(seven, Gates.row(99, 0, 0, 0, 0));
        check.due(222, seven.drift(0));
    }

    private void buckets() {
        check.test("promise 45: the bounds of the buckets");
        for (int low = -100; low < 100; low += 20) {
            QualityGate gate = Gates.withColumn(Math.max(low, -99));
            gate.saveProfile();
            gate.setValue(0, 0, low + 19);
            check.due(0, gate.drift(0));
            gate.setValue(0, 0, low + 20);
            check.due(1000, gate.drift(0));
            if (low > -100) {
                gate.setValue(0, 0, low - 1);
                check.due(1000, gate.drift(0));
            }
        }
    }

    private void driftWrong() {
        check.test("promise 45: drift with wrong inputs, in their order");
        QualityGate gate = new QualityGate();
        check.dueThrow(IndexOutOfBoundsException.class, () -> gate.drift(5));
        check.dueThrow(NoSuchElementException.class, () -> gate.drift(4));
        Gates.add(gate, Gates.row(1, 1, 1, 1, 1));
        check.dueThrow(NoSuchElementException.class, () -> gate.drift(0));
        gate.saveProfile();
        check.dueThrow(IndexOutOfBoundsException.class, () -> gate.drift(-1));
        gate.removeRow(0);
        check.dueThrow(IndexOutOfBoundsException.class, () -> gate.drift(5));
        check.dueThrow(IllegalStateException.class, () -> gate.drift(0));
    }

    private void mostDrifted() {
        check.test("promise 46: mostDrifted");
        QualityGate gate = new QualityGate();
        check.dueThrow(NoSuchElementException.class, gate::mostDrifted);
        Gates.add(gate, Gates.row(0, 0, 0, 0, 0));
        Gates.add(gate, Gates.row(0, 0, 0, 0, 0));
        check.dueThrow(NoSuchElementException.class, gate::mostDrifted);
        gate.saveProfile();
        check.due(0, gate.mostDrifted());
        gate.setValue(0, 2, 50);
        check.due(2, gate.mostDrifted());
        gate.setValue(1, 1, M);
        check.due(1, gate.mostDrifted());
        gate.setValue(0, 4, 50);
        gate.setValue(1, 4, 70);
        check.due(4, gate.mostDrifted());
        gate.repair();
        gate.removeRow(0);
        gate.removeRow(1);
        check.dueThrow(IllegalStateException.class, gate::mostDrifted);
    }

    private void meanOf() {
        check.test("promise 47: meanOf");
        check.due(2.0 / 3.0, Gates.withColumn(-5, 7, M, 0).meanOf(0));
        check.due(-99.0, Gates.withColumn(-99, -99).meanOf(0));
        check.due(0.0, Gates.withColumn(-1, 1).meanOf(0));
        check.due(99.0, Gates.withColumn(99, 99, 99, 99, 99, 99, 99, 99, 99, 99, 99, 99).meanOf(0));
        QualityGate gate = Gates.with(Gates.row(1, 2, 3, M, 5));
        check.due(5.0, gate.meanOf(4));
        check.dueThrow(ArithmeticException.class, () -> gate.meanOf(3));
        check.dueThrow(ArithmeticException.class, () -> new QualityGate().meanOf(0));
        check.dueThrow(IndexOutOfBoundsException.class, () -> gate.meanOf(-1));
        check.dueThrow(IndexOutOfBoundsException.class, () -> new QualityGate().meanOf(5));
    }

    private void missingShare() {
        check.test("promise 48: missingShare");
        QualityGate gate = Gates.withColumn(M, 1, 2);
        check.due(1.0f / 3.0f, gate.missingShare(0));
        check.due(0.0f, gate.missingShare(4));
        gate.setValue(1, 0, M);
        check.due(2.0f / 3.0f, gate.missingShare(0));
        gate.removeRow(2);
        check.due(1.0f, gate.missingShare(0));
        check.dueThrow(IndexOutOfBoundsException.class, () -> gate.missingShare(5));
        check.dueThrow(IndexOutOfBoundsException.class, () -> gate.missingShare(-1));
        check.dueThrow(ArithmeticException.class, () -> new QualityGate().missingShare(0));
        check.dueThrow(IndexOutOfBoundsException.class, () -> new QualityGate().missingShare(5));
    }

    private void isConsistent() {
        check.test("promise 49: isConsistent");
        check.due(true, new QualityGate().isConsistent());
        QualityGate gate = Gates.with(Gates.row(1, 10, 5, 50, 7), Gates.row(1, 10, 6, 60, 7),
                Gates.row(2, M, 5, 50, 7), Gates.row(3, 20, M, 60, 7), Gates.row(3, 20, M, 60, 7));
        gate.addUnique(0, false);
        gate.addRequired(1, false);
        check.due(true, gate.isConsistent());
        check.due(3, gate.fewestRemovals());
        check.due("0 1 2 3 4", Gates.ids(gate));
    }
}
