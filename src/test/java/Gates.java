/** Gates with the rows that a test begins with. */
final class Gates {
    static final int M = QualityGate.MISSING;

    private Gates() {
    }

    /** A gate whose table holds these rows, with the ids 0, 1, 2 and so on. */
    static QualityGate with(int[]... rows) {
        QualityGate gate = new QualityGate();
        for (int[] row : rows) {
            add(gate, row);
        }
        return gate;
    }

    /** A gate whose rows have these values in column 0, and 0 elsewhere. */
    static QualityGate withColumn(int... values) {
        QualityGate gate = new QualityGate();
        for (int value : values) {
            add(gate, row(value, 0, 0, 0, 0));
        }
        return gate;
    }

    /** A gate with 12 rows, whose values in column 0 are 0 to 11, and 0 elsewhere. */
    static QualityGate full() {
        return withColumn(0, 1, 2, 3, 4, 5, 6, 7, 8, 9, 10, 11);
    }

    /** Stages rows with these values in column 0, and 0 elsewhere. */
    static void stageColumn(QualityGate gate, int... values) {
        for (int value : values) {
            gate.stage(value, 0, 0, 0, 0);
        }
    }

    /** Stages rows until 6 are staged. */
    static void fillBatch(QualityGate gate) {
        while (gate.staged() < 6) {
            gate.stage(0, 0, 0, 0, 0);
        }
    }

    /** Adds rules that are not strict, until 10 rules have been added. */
    static void fillRules(QualityGate gate) {
        for (int i = 0; i < 10; i++) {
            try {
                gate.addRequired(0, false);
            } catch (IllegalStateException full) {
                return;
            }
        }
    }

    static int[] row(int a, int b, int c, int d, int e) {
        return new int[] {a, b, c, d, e};
    }

    static void add(QualityGate gate, int[] row) {
        gate.stage(row[0], row[1], row[2], row[3], row[4]);
        gate.commit();
    }

    static String values(QualityGate gate, int id) {
        StringBuilder text = new StringBuilder();
        for (int column = 0; column < 5; column++) {
            text.append(column == 0 ? "" : " ").append(gate.valueAt(id, column));
        }
        return text.toString();
    }

    static String ids(QualityGate gate) {
        StringBuilder text = new StringBuilder();
        for (int position = 0; position < gate.rowCount(); position++) {
            text.append(position == 0 ? "" : " ").append(gate.rowAt(position));
        }
        return text.toString();
    }

    /** The ids of the rows of the best repair. */
    static String inRepair(QualityGate gate) {
        StringBuilder text = new StringBuilder();
        for (int position = 0; position < gate.rowCount(); position++) {
            int id = gate.rowAt(position);
            if (gate.isInRepair(id)) {
                text.append(text.length() == 0 ? "" : " ").append(id);
            }
        }
        return text.toString();
    }

    /** What is recorded of the latest rejection, if it was at a pair rule. */
    static String rejection(QualityGate gate) {
        return gate.rejectedRow() + " " + gate.rejectedRule() + " " + gate.rejectedOther() + " " + gate.isOtherStaged();
    }
}
