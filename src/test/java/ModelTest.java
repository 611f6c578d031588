/** Long runs of calls, the same each time, of which each answer is held against the one of the model. */
final class ModelTest {
    private static final int RUNS = 600;
    /** An object answers as the document says up to its 512th call, so that ids are asked of the model alone. */
    private static final int CALLS = 512;
    private static final int KINDS = 48;
    /** The kinds that give many ids: five rows staged and removed, and a commit. */
    private static final int[] FILLING = {1, 1, 1, 1, 1, 2, 0, 0, 0, 0, 0};
    private static final int[] FAR = {-1, 5, 31, 32, 100, 101, -99, -100, 99, Integer.MIN_VALUE, Integer.MAX_VALUE};

    private final Check check;
    private long seed;
    private int width;
    private int strictShare;
    private int ruleShare;
    private boolean isFilling;

    ModelTest(Check check) {
        this.check = check;
    }

    void run() {
        for (int run = 1; run <= RUNS; run++) {
            seed = run * 7919L;
            width = new int[] {2, 3, 6, 199}[run % 4];
            strictShare = run % 3;
            ruleShare = run % 5 == 0 ? 2 : 6;
            isFilling = run % 11 == 0;
            QualityGate gate = new QualityGate();
            Model model = new Model();
            for (int call = 0; call < CALLS; call++) {
                check.test("run " + run + " against the model, call " + call);
                step(gate, model, kind());
            }
        }
    }

    private int number(int bound) {
        seed = seed * 6364136223846793005L + 1442695040888963407L;
        return (int) ((seed >>> 33) % bound);
    }

    /** Calls that fill, change and empty the table come more often, so that the others find something new. */
    private int kind() {
        if (isFilling && number(4) != 0) {
            return FILLING[number(FILLING.length)];
        }
        int pick = number(KINDS + 24);
        if (pick < KINDS) {
            return pick;
        }
        return pick < KINDS + 10 ? 1 : pick < KINDS + 16 ? 2 : pick < KINDS + 20 ? 0 : 9;
    }

    private int value() {
        int pick = number(40);
        if (pick == 0) {
            return FAR[number(FAR.length)];
        }
        return pick < 5 ? QualityGate.MISSING : number(width) - width / 2;
    }

    private int column() {
        return number(25) == 0 ? FAR[number(FAR.length)] : number(5);
    }

    private int set() {
        return number(25) == 0 ? FAR[number(FAR.length)] : number(32);
    }

    private int ruleNumber() {
        return number(25) == 0 ? FAR[number(FAR.length)] : number(10);
    }

    private int id(Model model) {
        int rows = (int) model.rowCount();
        if (rows > 0 && number(8) != 0) {
            return (int) model.rowAt(number(rows));
        }
        return number(4) == 0 ? FAR[number(FAR.length)] : number(30);
    }

    private boolean isStrict() {
        return number(3) < strictShare;
    }

    private void same(Check.Call own, Check.Call want) {
        check.due(Check.outcome(want), Check.ownOutcome(own));
    }

    private void step(QualityGate gate, Model model, int kind) {
        if (kind < 13) {
            rowStep(gate, model, kind);
        } else if (kind < 24) {
            ruleStep(gate, model, kind);
        } else if (kind < 37) {
            repairOrDependencyStep(gate, model, kind);
        } else {
            figureStep(gate, model, kind);
        }
    }

    private void rowStep(QualityGate gate, Model model, int kind) {
        int id = id(model);
        int column = column();
        int value = value();
        int a = value();
        int b = value();
        int c = value();
        int d = value();
        switch (kind) {
            case 1 -> same(() -> gate.stage(a, b, c, d, value), () -> model.stage(a, b, c, d, value));
            case 2 -> same(gate::commit, model::commit);
            case 3 -> {
                if (number(4) == 0) {
                    same(gate::discard, model::discard);
                }
            }
            case 4 -> same(gate::staged, model::staged);
            case 5 -> same(gate::rejectedRow, model::rejectedRow);
            case 6 -> same(gate::rejectedRule, model::rejectedRule);
            case 7 -> same(gate::rejectedOther, model::rejectedOther);
            case 8 -> same(gate::isOtherStaged, model::isOtherStaged);
            case 0 -> same(() -> gate.removeRow(id), () -> model.removeRow(id));
            case 9 -> same(() -> gate.setValue(id, column, value), () -> model.setValue(id, column, value));
            case 10 -> same(() -> gate.valueAt(id, column), () -> model.valueAt(id, column));
            case 11 -> same(gate::rowCount, model::rowCount);
            default -> same(() -> gate.rowAt(column), () -> model.rowAt(column));
        }
    }

    private void ruleStep(QualityGate gate, Model model, int kind) {
        int id = id(model);
        int other = id(model);
        int column = column();
        int second = column();
        int set = set();
        int rule = ruleNumber();
        int low = value();
        int high = number(4) == 0 ? value() : low + number(4);
        boolean isStrict = isStrict();
        // a run begins with few rules, so that rows come into the table before strict rules stand
        boolean isWanted = number(ruleShare) == 0 && !isFilling;
        switch (kind) {
            case 13 -> {
                if (isWanted) {
                    same(() -> gate.addRange(column, low, high, isStrict),
                            () -> model.addRange(column, low, high, isStrict));
                }
            }
            case 14 -> {
                if (isWanted) {
                    same(() -> gate.addRequired(column, isStrict), () -> model.addRequired(column, isStrict));
                }
            }
            case 15 -> {
                if (isWanted) {
                    same(() -> gate.addOrder(column, second, isStrict), () -> model.addOrder(column, second, isStrict));
                }
            }
            case 16 -> {
                if (isWanted) {
                    same(() -> gate.addUnique(column, isStrict), () -> model.addUnique(column, isStrict));
                }
            }
            case 17 -> {
                if (isWanted) {
                    same(() -> gate.addDependency(set, column, isStrict),
                            () -> model.addDependency(set, column, isStrict));
                }
            }
            case 18 -> {
                if (isWanted) {
                    same(() -> gate.dropRule(rule), () -> model.dropRule(rule));
                }
            }
            case 19 -> same(() -> gate.violations(rule), () -> model.violations(rule));
            case 20 -> same(() -> gate.isBad(id), () -> model.isBad(id));
            case 21 -> same(() -> gate.conflict(id, other), () -> model.conflict(id, other));
            case 22 -> same(gate::groups, model::groups);
            default -> same(() -> gate.groupSize(id), () -> model.groupSize(id));
        }
    }

    private void repairOrDependencyStep(QualityGate gate, Model model, int kind) {
        int id = id(model);
        int column = column();
        int set = set();
        int position = number(4);
        switch (kind) {
            case 24 -> same(gate::fewestRemovals, model::fewestRemovals);
            case 25 -> same(gate::fewestRemovalsByTrying, model::fewestRemovals);
            case 26 -> same(() -> gate.isInRepair(id), () -> model.isInRepair(id));
            case 27 -> {
                if (number(8) == 0) {
                    same(gate::repair, model::repair);
                }
            }
            case 28 -> same(() -> gate.determines(set, column), () -> model.determines(set, column));
            case 29 -> same(() -> gate.determinesByPairs(set, column), () -> model.determines(set, column));
            case 30 -> same(() -> gate.minimalCount(column), () -> model.minimalCount(column));
            case 31 -> same(() -> gate.minimalCountByTrying(column), () -> model.minimalCount(column));
            case 32 -> same(() -> gate.minimalAt(column, position), () -> model.minimalAt(column, position));
            case 33 -> same(() -> gate.closureOf(set), () -> model.closureOf(set));
            case 34 -> same(() -> gate.isKey(set), () -> model.isKey(set));
            case 35 -> same(gate::smallestKey, model::smallestKey);
            default -> same(() -> gate.errorOf(set, column), () -> model.errorOf(set, column));
        }
    }

    private void figureStep(QualityGate gate, Model model, int kind) {
        int id = id(model);
        int column = column();
        int factor = number(12) - 1;
        switch (kind) {
            case 37 -> same(() -> gate.setFactor(factor), () -> model.setFactor(factor));
            case 38 -> same(() -> gate.medianOf(column), () -> model.medianOf(column));
            case 39 -> same(() -> gate.spreadOf(column), () -> model.spreadOf(column));
            case 40 -> same(() -> gate.isOutlier(id, column), () -> model.isOutlier(id, column));
            case 41 -> same(() -> gate.outliers(column), () -> model.outliers(column));
            case 42 -> same(gate::saveProfile, model::saveProfile);
            case 43 -> same(() -> gate.drift(column), () -> model.drift(column));
            case 44 -> same(gate::mostDrifted, model::mostDrifted);
            case 45 -> same(() -> gate.meanOf(column), () -> model.meanOf(column));
            case 46 -> same(() -> gate.missingShare(column), () -> model.missingShare(column));
            default -> same(gate::isConsistent, () -> true);
        }
    }
}
