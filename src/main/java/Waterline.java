/** A language for models: units, variables, formulas, and what would be. */
public final class Waterline {
    private static final int MOST_UNITS = 12;
    private static final int MOST_VARIABLES = 16;
    private static final int MOST_PARTS = 60;
    private static final int MOST_TURNS = 40;
    private static final int MOST_FACTOR = 100000;
    private static final int DIMENSIONS = 4;
    private static final int PLACES = 4;
    private static final int LIMIT = 1000000000;
    private static final int MOVING_STEP = 1000;
    private static final int NO_EXPONENT = 99;
    /** 31 halvings bring the widest span, 2 * LIMIT, to nothing. */
    private static final int MOST_HALVINGS = 32;

    /** Stands where an amount is BROKEN: below all that is KEPT, so it is never mistaken for one. */
    private static final int BROKEN = -2000000000;

    private static final int NUMBER = 0;
    private static final int OF = 1;
    private static final int SUM = 2;
    private static final int REST = 3;
    private static final int TIMES = 4;
    private static final int PER = 5;
    private static final int LEAST = 6;
    private static final int MOST = 7;
    private static final int IF = 8;
    private static final int ROOT = 9;

    private static final int FAULT_UNLIKE = 1;
    private static final int FAULT_ROOT = 2;
    private static final int FAULT_FORMULA = 3;
    private static final int FAULT_RANGE = 4;

    private final Units unitTable;
    private final Parts partTable;
    private final Variables variableTable;
    private final Faults faultTable;
    private final Order order;
    private final Solver solver;

    private final Solution settled;
    private final Solution trial;
    private final int[] trialSettings;
    private final int[] highAmounts;
    private final int[] movers;

    private final int[][] cases;
    private final int[] caseSizes;

    /** Faults and order hold for the formulas as they are. */
    private boolean arranged;
    /** The settled amounts hold for what is set now. */
    private boolean solved;
    /** The movers hold for what is set now. */
    private boolean moversFound;

    public Waterline() {
        unitTable = new Units();
        partTable = new Parts();
        variableTable = new Variables();
        faultTable = new Faults(unitTable, partTable, variableTable);
        order = new Order(partTable, variableTable);
        solver = new Solver(unitTable, partTable, variableTable, faultTable, order);
        settled = new Solution();
        trial = new Solution();
        trialSettings = new int[MOST_VARIABLES];
        highAmounts = new int[MOST_VARIABLES];
        movers = new int[MOST_VARIABLES];
        cases = new int[PLACES][MOST_VARIABLES];
        caseSizes = new int[PLACES];
        for (int place = 0; place < PLACES; place++) {
            caseSizes[place] = -1;
        }
    }

    // ---- what is told

    public int unit(int first, int second, int third, int fourth, int p, int q)
            throws IllegalArgumentException, IllegalStateException {
        if (!isUnitExponent(first) || !isUnitExponent(second) || !isUnitExponent(third) || !isUnitExponent(fourth)) {
            throw new IllegalArgumentException();
        }
        if (p < 1 || p > MOST_FACTOR || q < 1 || q > MOST_FACTOR) {
            throw new IllegalArgumentException();
        }
        if (unitTable.count >= MOST_UNITS) {
            throw new IllegalStateException();
        }
        return unitTable.add(first, second, third, fourth, p, q);
    }

    public int variable(int unit) throws IndexOutOfBoundsException, IllegalStateException {
        needUnit(unit);
        if (variableTable.count >= MOST_VARIABLES) {
            throw new IllegalStateException();
        }
        forgetOrder();
        return variableTable.add(unit);
    }

    public int number(int n, int unit)
            throws IndexOutOfBoundsException, IllegalArgumentException, IllegalStateException {
        needUnit(unit);
        needAmount(n);
        needRoomForPart();
        return partTable.addLeaf(NUMBER, unitTable.withoutUnit(n, unit), 0, unitTable.exponents[unit]);
    }

    public int of(int variable) throws IndexOutOfBoundsException, IllegalStateException {
        needVariable(variable);
        needRoomForPart();
        int unit = variableTable.unit[variable];
        return partTable.addLeaf(OF, variable, 1 << variable, unitTable.exponents[unit]);
    }

    public int join(int code, int a, int b)
            throws IndexOutOfBoundsException, IllegalArgumentException, IllegalStateException {
        needPart(a);
        needPart(b);
        if (code < SUM || code > MOST) {
            throw new IllegalArgumentException();
        }
        needRoomForPart();
        return partTable.addNode(code, a, b, b);
    }

    public int when(int a, int b, int c) throws IndexOutOfBoundsException, IllegalStateException {
        needPart(a);
        needPart(b);
        needPart(c);
        needRoomForPart();
        return partTable.addNode(IF, a, b, c);
    }

    public int root(int a) throws IndexOutOfBoundsException, IllegalStateException {
        needPart(a);
        needRoomForPart();
        return partTable.addNode(ROOT, a, a, a);
    }

    public int define(int variable, int part) throws IndexOutOfBoundsException {
        needVariable(variable);
        if (part != -1) {
            needPart(part);
        }
        int before = variableTable.formula[variable];
        variableTable.formula[variable] = part;
        forgetOrder();
        return before;
    }

    public int set(int variable, int amount)
            throws IndexOutOfBoundsException, IllegalArgumentException, IllegalStateException {
        needVariable(variable);
        needAmount(amount);
        needInput(variable);
        variableTable.settings[variable] = amount;
        forgetAmounts();
        return unitTable.withoutUnit(amount, variableTable.unit[variable]);
    }

    public int setTurns(int slack, int damping) throws IllegalArgumentException {
        if (slack < 0 || slack > 10000 || damping < 1 || damping > 100) {
            throw new IllegalArgumentException();
        }
        int before = solver.slack;
        solver.slack = slack;
        solver.damping = damping;
        forgetAmounts();
        return before;
    }

    public int units() {
        return unitTable.count;
    }

    public int variables() {
        return variableTable.count;
    }

    public int parts() {
        return partTable.count;
    }

    // ---- dimensions and faults

    public int exponent(int part, int dimension) throws IndexOutOfBoundsException {
        needPart(part);
        if (dimension < 0 || dimension >= DIMENSIONS) {
            throw new IndexOutOfBoundsException();
        }
        return partTable.exponentOf(part, dimension);
    }

    public int faults() {
        arrange();
        return faultTable.count;
    }

    public int ofFault(int fault, int what) throws IndexOutOfBoundsException, IllegalArgumentException {
        arrange();
        if (fault < 0 || fault >= faultTable.count) {
            throw new IndexOutOfBoundsException();
        }
        if (what < 0 || what > 2) {
            throw new IllegalArgumentException();
        }
        return faultTable.told(fault, what);
    }

    // ---- order and circles

    public int leansOn(int variable) throws IndexOutOfBoundsException {
        needVariable(variable);
        arrange();
        return order.leans[variable];
    }

    public int circles() {
        arrange();
        return order.count;
    }

    public int circle(int circle, int what) throws IndexOutOfBoundsException, IllegalArgumentException {
        arrange();
        if (circle < 0 || circle >= order.count) {
            throw new IndexOutOfBoundsException();
        }
        if (what < 0 || what > 3) {
            throw new IllegalArgumentException();
        }
        settle();
        return toldOfCircle(circle, what);
    }

    public int mostTurns() {
        settle();
        return settled.greatestTurns(order.count);
    }

    // ---- amounts

    public int amount(int variable) throws IndexOutOfBoundsException {
        needVariable(variable);
        settle();
        return shown(settled.amounts[variable]);
    }

    public int amountIn(int variable, int unit) throws IndexOutOfBoundsException, IllegalArgumentException {
        needVariable(variable);
        needUnit(unit);
        if (!unitTable.hasExponents(variableTable.unit[variable], unitTable.exponents[unit])) {
            throw new IllegalArgumentException();
        }
        settle();
        return unitTable.inUnit(shown(settled.amounts[variable]), unit);
    }

    public boolean isBroken(int variable) throws IndexOutOfBoundsException {
        needVariable(variable);
        settle();
        return settled.amounts[variable] == BROKEN;
    }

    public int worth(int part) throws IndexOutOfBoundsException {
        needPart(part);
        settle();
        return shown(solver.reckon(part, settled.amounts));
    }

    public int broken() {
        settle();
        return settled.brokenOnes(variableTable.count);
    }

    // ---- goals, and what moves what (nothing is changed)

    public int seek(int input, int variable, int goal, int low, int high)
            throws IndexOutOfBoundsException, IllegalArgumentException, IllegalStateException {
        needVariable(input);
        needVariable(variable);
        needAmount(low);
        needAmount(high);
        if (high < low) {
            throw new IllegalArgumentException();
        }
        needInput(input);
        settle();
        resetTrial();
        int from = low;
        int to = high;
        for (int k = 0; k < MOST_HALVINGS && from < to; k++) {
            int middle = from + (to - from) / 2;
            int amount = tried(input, middle, variable);
            if (amount == BROKEN || amount < goal) {
                from = middle + 1;
            } else {
                to = middle;
            }
        }
        return from;
    }

    public int amountWith(int input, int variable, int amount)
            throws IndexOutOfBoundsException, IllegalArgumentException, IllegalStateException {
        needVariable(input);
        needVariable(variable);
        needAmount(amount);
        needInput(input);
        settle();
        resetTrial();
        return shown(tried(input, amount, variable));
    }

    public double slope(int input, int variable, int step)
            throws IndexOutOfBoundsException, IllegalArgumentException, IllegalStateException {
        needVariable(input);
        needVariable(variable);
        if (step < 1 || step > 1000000) {
            throw new IllegalArgumentException();
        }
        needInput(input);
        settle();
        resetTrial();
        long x = variableTable.settings[input];
        int high = shown(tried(input, kept(x + step), variable));
        int low = shown(tried(input, kept(x - step), variable));
        return (double) (high - low) / (2.0 * step);
    }

    public int movedBy(int variable) throws IndexOutOfBoundsException {
        needVariable(variable);
        settle();
        findMovers();
        return movers[variable];
    }

    public int best(int input, int variable, int from, int by, int many)
            throws IndexOutOfBoundsException, IllegalArgumentException, IllegalStateException {
        needVariable(input);
        needVariable(variable);
        if (from < -1000000 || from > 1000000 || by < -1000000 || by > 1000000 || many < 1 || many > 20) {
            throw new IllegalArgumentException();
        }
        needInput(input);
        settle();
        resetTrial();
        int place = -1;
        int greatest = BROKEN;
        for (int k = 0; k < many; k++) {
            int amount = tried(input, from + by * k, variable);
            if (amount > greatest) {
                greatest = amount;
                place = k;
            }
        }
        return place;
    }

    public int faultsWith(int variable, int part) throws IndexOutOfBoundsException {
        needVariable(variable);
        needPart(part);
        arrange();
        int others = faultTable.count - faultTable.countFor(variable, variableTable.formula[variable]);
        return others + faultTable.countFor(variable, part);
    }

    // ---- cases

    public int keep(int place) throws IndexOutOfBoundsException {
        needPlace(place);
        caseSizes[place] = variableTable.count;
        System.arraycopy(variableTable.settings, 0, cases[place], 0, MOST_VARIABLES);
        int keptCases = 0;
        for (int k = 0; k < PLACES; k++) {
            if (caseSizes[k] >= 0) {
                keptCases++;
            }
        }
        return keptCases;
    }

    public int load(int place) throws IndexOutOfBoundsException, IllegalStateException {
        needPlace(place);
        needCase(place);
        int others = 0;
        for (int v = 0; v < caseSizes[place]; v++) {
            if (variableTable.isInput(v) && variableTable.settings[v] != cases[place][v]) {
                others++;
            }
            variableTable.settings[v] = cases[place][v];
        }
        forgetAmounts();
        return others;
    }

    public int amountOf(int place, int variable) throws IndexOutOfBoundsException, IllegalStateException {
        needPlace(place);
        needVariable(variable);
        needCase(place);
        settle();
        resetTrial();
        System.arraycopy(cases[place], 0, trialSettings, 0, caseSizes[place]);
        solver.solve(trialSettings, order.below(variable), trial);
        return shown(trial.amounts[variable]);
    }

    public long digest() {
        settle();
        findMovers();
        long d = 58061;
        d = d * 31 + unitTable.count;
        d = d * 31 + variableTable.count;
        d = d * 31 + partTable.count;
        d = d * 31 + faultTable.count;
        d = d * 31 + order.count;
        d = d * 31 + settled.greatestTurns(order.count);
        d = d * 31 + settled.brokenOnes(variableTable.count);
        d = withParts(d);
        d = withFaults(d);
        d = withVariables(d);
        return withCircles(d);
    }

    private long withParts(long start) {
        long d = start;
        for (int part = 0; part < partTable.count; part++) {
            for (int dimension = 0; dimension < DIMENSIONS; dimension++) {
                d = d * 31 + partTable.exponentOf(part, dimension);
            }
            d = d * 31 + shown(solver.reckon(part, settled.amounts));
        }
        return d;
    }

    private long withFaults(long start) {
        long d = start;
        for (int fault = 0; fault < faultTable.count; fault++) {
            for (int what = 0; what < 3; what++) {
                d = d * 31 + faultTable.told(fault, what);
            }
        }
        return d;
    }

    private long withVariables(long start) {
        long d = start;
        for (int v = 0; v < variableTable.count; v++) {
            d = d * 31 + order.leans[v];
            d = d * 31 + shown(settled.amounts[v]);
            d = d * 31 + (settled.amounts[v] == BROKEN ? 1 : 0);
            d = d * 31 + movers[v];
        }
        return d;
    }

    private long withCircles(long start) {
        long d = start;
        for (int k = 0; k < order.count; k++) {
            for (int what = 0; what < 4; what++) {
                d = d * 31 + toldOfCircle(k, what);
            }
        }
        return d;
    }

    private int toldOfCircle(int circle, int what) {
        switch (what) {
            case 0:
                return order.members[circle];
            case 1:
                return order.round[circle] ? 1 : 0;
            case 2:
                return settled.turns[circle];
            default:
                return settled.open[circle] ? 1 : 0;
        }
    }

    private void forgetOrder() {
        arranged = false;
        forgetAmounts();
    }

    private void forgetAmounts() {
        solved = false;
        moversFound = false;
    }

    private void arrange() {
        if (!arranged) {
            faultTable.gather();
            order.arrange();
            arranged = true;
        }
    }

    private void settle() {
        arrange();
        if (!solved) {
            solver.solve(variableTable.settings, -1, settled);
            solved = true;
        }
    }

    /** What a trial does not solve again has to stand in it as it is settled. */
    private void resetTrial() {
        System.arraycopy(variableTable.settings, 0, trialSettings, 0, MOST_VARIABLES);
        System.arraycopy(settled.amounts, 0, trial.amounts, 0, MOST_VARIABLES);
    }

    /** Solves only what leans on the INPUT and bears on the variable: all else stays as it is. */
    private int tried(int input, int amount, int variable) {
        trialSettings[input] = amount;
        solver.solve(trialSettings, order.above(input) & order.below(variable), trial);
        return trial.amounts[variable];
    }

    /** Finds them for all variables at once, since each trial of an INPUT tells about all of them. */
    private void findMovers() {
        if (moversFound) {
            return;
        }
        for (int v = 0; v < variableTable.count; v++) {
            movers[v] = 0;
        }
        for (int input = 0; input < variableTable.count; input++) {
            if (variableTable.isInput(input)) {
                long x = variableTable.settings[input];
                int moved = order.above(input);
                resetTrial();
                trialSettings[input] = kept(x + MOVING_STEP);
                solver.solve(trialSettings, moved, trial);
                System.arraycopy(trial.amounts, 0, highAmounts, 0, MOST_VARIABLES);
                trialSettings[input] = kept(x - MOVING_STEP);
                solver.solve(trialSettings, moved, trial);
                noteMoved(input);
            }
        }
        moversFound = true;
    }

    private void noteMoved(int input) {
        for (int v = 0; v < variableTable.count; v++) {
            if (shown(highAmounts[v]) != shown(trial.amounts[v])) {
                movers[v] |= 1 << input;
            }
        }
    }

    private void needUnit(int unit) {
        if (!unitTable.has(unit)) {
            throw new IndexOutOfBoundsException();
        }
    }

    private void needVariable(int variable) {
        if (!variableTable.has(variable)) {
            throw new IndexOutOfBoundsException();
        }
    }

    private void needPart(int part) {
        if (!partTable.has(part)) {
            throw new IndexOutOfBoundsException();
        }
    }

    private void needPlace(int place) {
        if (place < 0 || place >= PLACES) {
            throw new IndexOutOfBoundsException();
        }
    }

    private void needAmount(int amount) {
        if (amount < -LIMIT || amount > LIMIT) {
            throw new IllegalArgumentException();
        }
    }

    private void needInput(int variable) {
        if (!variableTable.isInput(variable)) {
            throw new IllegalStateException();
        }
    }

    private void needCase(int place) {
        if (caseSizes[place] < 0) {
            throw new IllegalStateException();
        }
    }

    private void needRoomForPart() {
        if (partTable.count >= MOST_PARTS) {
            throw new IllegalStateException();
        }
    }

    private static boolean isUnitExponent(int exponent) {
        return exponent >= -3 && exponent <= 3;
    }

    private static int kept(long n) {
        if (n > LIMIT) {
            return LIMIT;
        }
        return n < -LIMIT ? -LIMIT : (int) n;
    }

    private static int shown(int amount) {
        return amount == BROKEN ? 0 : amount;
    }

    private static boolean isIn(int set, int variable) {
        return (set >> variable & 1) != 0;
    }

    private static boolean isPartIn(long set, int part) {
        return (set >> part & 1L) != 0;
    }

    private static final class Units {
        final int[][] exponents = new int[MOST_UNITS][DIMENSIONS];
        /** Neither factor is ever 0 below count: unit() refuses it. */
        final int[] p = new int[MOST_UNITS];
        final int[] q = new int[MOST_UNITS];
        int count;

        Units() {
            p[0] = 1;
            q[0] = 1;
            count = 1;
        }

        boolean has(int unit) {
            return unit >= 0 && unit < count;
        }

        int add(int first, int second, int third, int fourth, int factorP, int factorQ) {
            exponents[count][0] = first;
            exponents[count][1] = second;
            exponents[count][2] = third;
            exponents[count][3] = fourth;
            p[count] = factorP;
            q[count] = factorQ;
            count++;
            return count - 1;
        }

        int withoutUnit(int n, int unit) {
            return kept((long) n * p[unit] / q[unit]);
        }

        int inUnit(int n, int unit) {
            return kept((long) n * q[unit] / p[unit]);
        }

        boolean hasExponents(int unit, int[] others) {
            for (int d = 0; d < DIMENSIONS; d++) {
                if (exponents[unit][d] != others[d]) {
                    return false;
                }
            }
            return true;
        }
    }

    private static final class Variables {
        final int[] unit = new int[MOST_VARIABLES];
        /** -1 for an INPUT. */
        final int[] formula = new int[MOST_VARIABLES];
        /** In the variable's own UNIT; it outlasts a FORMULA. */
        final int[] settings = new int[MOST_VARIABLES];
        int count;

        boolean has(int variable) {
            return variable >= 0 && variable < count;
        }

        boolean isInput(int variable) {
            return formula[variable] < 0;
        }

        int add(int ownUnit) {
            unit[count] = ownUnit;
            formula[count] = -1;
            settings[count] = 0;
            count++;
            return count - 1;
        }
    }

    /** The parts never change once they are added, so all that follows from them is found then. */
    private static final class Parts {
        final int[] code = new int[MOST_PARTS];
        /** Of NUMBER the amount without UNIT, of OF the variable, otherwise a part. */
        final int[] a = new int[MOST_PARTS];
        final int[] b = new int[MOST_PARTS];
        final int[] c = new int[MOST_PARTS];
        final int[][] exponents = new int[MOST_PARTS][DIMENSIONS];
        /** The code of the FAULT that the part itself is; 0 for none. */
        final int[] faultCode = new int[MOST_PARTS];
        final long[] inside = new long[MOST_PARTS];
        final int[] leans = new int[MOST_PARTS];
        long measured;
        long faulty;
        int count;

        boolean has(int part) {
            return part >= 0 && part < count;
        }

        int addLeaf(int leafCode, int told, int leaning, int[] dimensions) {
            int part = count;
            count++;
            code[part] = leafCode;
            a[part] = told;
            inside[part] = 1L << part;
            leans[part] = leaning;
            System.arraycopy(dimensions, 0, exponents[part], 0, DIMENSIONS);
            measured |= 1L << part;
            return part;
        }

        /** One that names fewer than three gives one of them again. */
        int addNode(int nodeCode, int first, int second, int third) {
            int part = count;
            count++;
            code[part] = nodeCode;
            a[part] = first;
            b[part] = second;
            c[part] = third;
            inside[part] = inside[first] | inside[second] | inside[third] | 1L << part;
            leans[part] = leans[first] | leans[second] | leans[third];
            if (isPartIn(measured, first) && isPartIn(measured, second) && isPartIn(measured, third)) {
                noteDimensions(part);
            }
            return part;
        }

        private void noteDimensions(int part) {
            if (measure(part, exponents[a[part]], exponents[b[part]], exponents[c[part]])) {
                measured |= 1L << part;
            } else {
                faulty |= 1L << part;
                faultCode[part] = faultOf(code[part]);
            }
        }

        private boolean measure(int part, int[] first, int[] second, int[] third) {
            int[] own = exponents[part];
            boolean fits = true;
            for (int d = 0; d < DIMENSIONS; d++) {
                switch (code[part]) {
                    case TIMES:
                        own[d] = first[d] + second[d];
                        break;
                    case PER:
                        own[d] = first[d] - second[d];
                        break;
                    case ROOT:
                        own[d] = first[d] / 2;
                        fits = fits && first[d] % 2 == 0;
                        break;
                    case IF:
                        own[d] = second[d];
                        fits = fits && second[d] == third[d];
                        break;
                    default:
                        own[d] = first[d];
                        fits = fits && first[d] == second[d];
                        break;
                }
                fits = fits && own[d] >= -20 && own[d] <= 20;
            }
            return fits;
        }

        private static int faultOf(int nodeCode) {
            if (nodeCode == ROOT) {
                return FAULT_ROOT;
            }
            return nodeCode == TIMES || nodeCode == PER ? FAULT_RANGE : FAULT_UNLIKE;
        }

        int exponentOf(int part, int dimension) {
            return isPartIn(measured, part) ? exponents[part][dimension] : NO_EXPONENT;
        }
    }

    private static final class Faults {
        final Units units;
        final Parts parts;
        final Variables variables;
        final int[] variable = new int[MOST_VARIABLES * MOST_PARTS];
        final int[] part = new int[MOST_VARIABLES * MOST_PARTS];
        final int[] code = new int[MOST_VARIABLES * MOST_PARTS];
        int count;
        /** The set of variables for which one is noted. */
        int noted;

        Faults(Units units, Parts parts, Variables variables) {
            this.units = units;
            this.parts = parts;
            this.variables = variables;
        }

        void gather() {
            count = 0;
            noted = 0;
            for (int v = 0; v < variables.count; v++) {
                if (!variables.isInput(v)) {
                    gatherFor(v, variables.formula[v]);
                }
            }
        }

        private void gatherFor(int v, int formula) {
            long wrong = parts.inside[formula] & parts.faulty;
            for (int k = 0; k <= formula; k++) {
                if (isPartIn(wrong, k)) {
                    note(v, k, parts.faultCode[k]);
                }
            }
            if (isOfOtherUnit(v, formula)) {
                note(v, formula, FAULT_FORMULA);
            }
        }

        private void note(int v, int k, int faultCode) {
            if (count < code.length) {
                variable[count] = v;
                part[count] = k;
                code[count] = faultCode;
                count++;
                noted |= 1 << v;
            }
        }

        private boolean isOfOtherUnit(int v, int formula) {
            return isPartIn(parts.measured, formula)
                    && !units.hasExponents(variables.unit[v], parts.exponents[formula]);
        }

        int countFor(int v, int formula) {
            if (formula < 0) {
                return 0;
            }
            int own = isOfOtherUnit(v, formula) ? 1 : 0;
            return own + Long.bitCount(parts.inside[formula] & parts.faulty);
        }

        int told(int fault, int what) {
            if (what == 0) {
                return variable[fault];
            }
            return what == 1 ? part[fault] : code[fault];
        }
    }

    private static final class Order {
        final Parts parts;
        final Variables variables;
        final int[] leans = new int[MOST_VARIABLES];
        /** What a variable leans on along some way; it itself only in a ROUND circle. */
        final int[] reach = new int[MOST_VARIABLES];
        final int[] members = new int[MOST_VARIABLES];
        final int[] lowest = new int[MOST_VARIABLES];
        final boolean[] round = new boolean[MOST_VARIABLES];
        int count;

        Order(Parts parts, Variables variables) {
            this.parts = parts;
            this.variables = variables;
        }

        void arrange() {
            findReach();
            count = 0;
            int come = 0;
            for (int k = 0; k < variables.count; k++) {
                int v = nextLowest(come);
                if (v < 0) {
                    return;
                }
                lowest[count] = v;
                members[count] = circleWith(v);
                round[count] = isIn(reach[v], v);
                come |= members[count];
                count++;
            }
        }

        private void findReach() {
            for (int v = 0; v < variables.count; v++) {
                leans[v] = variables.isInput(v) ? 0 : parts.leans[variables.formula[v]];
                reach[v] = leans[v];
            }
            for (int way = 0; way < variables.count; way++) {
                for (int v = 0; v < variables.count; v++) {
                    if (isIn(reach[v], way)) {
                        reach[v] |= reach[way];
                    }
                }
            }
        }

        /** The first that is found is the lowest of its circle: those in one all wait for the same. */
        private int nextLowest(int come) {
            for (int v = 0; v < variables.count; v++) {
                if (!isIn(come, v) && (reach[v] & ~circleWith(v) & ~come) == 0) {
                    return v;
                }
            }
            return -1;
        }

        private int circleWith(int v) {
            return above(v) & below(v);
        }

        /** It itself, and all that lean on it. */
        int above(int v) {
            int set = 1 << v;
            for (int u = 0; u < variables.count; u++) {
                if (isIn(reach[u], v)) {
                    set |= 1 << u;
                }
            }
            return set;
        }

        /** It itself, and all on which it leans. */
        int below(int v) {
            return reach[v] | 1 << v;
        }
    }

    /** What all variables are with one row of settings. */
    private static final class Solution {
        final int[] amounts = new int[MOST_VARIABLES];
        final int[] turns = new int[MOST_VARIABLES];
        final boolean[] open = new boolean[MOST_VARIABLES];

        int greatestTurns(int circleCount) {
            int greatest = 0;
            for (int k = 0; k < circleCount; k++) {
                greatest = Math.max(greatest, turns[k]);
            }
            return greatest;
        }

        int brokenOnes(int variableCount) {
            int found = 0;
            for (int v = 0; v < variableCount; v++) {
                if (amounts[v] == BROKEN) {
                    found++;
                }
            }
            return found;
        }
    }

    private static final class Solver {
        final Units units;
        final Parts parts;
        final Variables variables;
        final Faults faultTable;
        final Order order;
        final int[] worths = new int[MOST_PARTS];
        int slack;
        int damping = 100;

        Solver(Units units, Parts parts, Variables variables, Faults faultTable, Order order) {
            this.units = units;
            this.parts = parts;
            this.variables = variables;
            this.faultTable = faultTable;
            this.order = order;
        }

        /** Solves the circles with variables of a set; those that they lean on stand in the solution. */
        void solve(int[] settings, int wanted, Solution into) {
            for (int k = 0; k < order.count; k++) {
                int members = order.members[k];
                if ((members & wanted) != 0) {
                    into.turns[k] = 0;
                    into.open[k] = false;
                    if ((members & faultTable.noted) != 0) {
                        setAll(members, BROKEN, into.amounts);
                    } else if (order.round[k]) {
                        solveRound(k, into);
                    } else {
                        solveAlone(order.lowest[k], settings, into.amounts);
                    }
                }
            }
        }

        private void setAll(int members, int amount, int[] amounts) {
            for (int v = 0; v < variables.count; v++) {
                if (isIn(members, v)) {
                    amounts[v] = amount;
                }
            }
        }

        private void solveAlone(int v, int[] settings, int[] amounts) {
            if (variables.isInput(v)) {
                amounts[v] = units.withoutUnit(settings[v], variables.unit[v]);
            } else {
                amounts[v] = reckon(variables.formula[v], amounts);
            }
        }

        private void solveRound(int k, Solution into) {
            int members = order.members[k];
            setAll(members, 0, into.amounts);
            for (int turn = 1; turn <= MOST_TURNS; turn++) {
                into.turns[k] = turn;
                int change = makeTurn(members, into.amounts);
                if (change == BROKEN) {
                    setAll(members, BROKEN, into.amounts);
                    return;
                }
                if (change <= slack) {
                    return;
                }
            }
            into.open[k] = true;
        }

        /** Answers by how much one became other at most, or BROKEN. */
        private int makeTurn(int members, int[] amounts) {
            int greatest = 0;
            for (int v = 0; v < variables.count; v++) {
                if (isIn(members, v) && !variables.isInput(v)) {
                    int goal = reckon(variables.formula[v], amounts);
                    if (goal == BROKEN) {
                        return BROKEN;
                    }
                    int change = (int) (((long) goal - amounts[v]) * damping / 100);
                    amounts[v] += change;
                    greatest = Math.max(greatest, Math.abs(change));
                }
            }
            return greatest;
        }

        /**
         * Reckons by rising numbers, each part once, though parts are named again and again; what
         * an IF would leave out is reckoned too, but nothing comes of it.
         */
        int reckon(int formula, int[] amounts) {
            long inside = parts.inside[formula];
            for (int k = 0; k <= formula; k++) {
                if (isPartIn(inside, k)) {
                    worths[k] = reckonPart(k, amounts);
                }
            }
            return worths[formula];
        }

        private int reckonPart(int k, int[] amounts) {
            int code = parts.code[k];
            if (code == NUMBER) {
                return parts.a[k];
            }
            if (code == OF) {
                return amounts[parts.a[k]];
            }
            int a = worths[parts.a[k]];
            if (a == BROKEN) {
                return BROKEN;
            }
            if (code == ROOT) {
                return a < 0 ? BROKEN : rootOf(a);
            }
            if (code == IF) {
                return worths[a > 0 ? parts.b[k] : parts.c[k]];
            }
            int b = worths[parts.b[k]];
            if (b == BROKEN) {
                return BROKEN;
            }
            switch (code) {
                case SUM:
                    return kept((long) a + b);
                case REST:
                    return kept((long) a - b);
                case TIMES:
                    return kept((long) a * b / 1000);
                case PER:
                    return b == 0 ? BROKEN : kept((long) a * 1000 / b);
                case LEAST:
                    return Math.min(a, b);
                default:
                    return Math.max(a, b);
            }
        }

        /** The square of 1000000 is the most that is asked, so 20 bits are enough. */
        private static int rootOf(long a) {
            long found = 0;
            for (int bit = 19; bit >= 0; bit--) {
                long next = found + (1L << bit);
                if (next * next <= a * 1000) {
                    found = next;
                }
            }
            return (int) found;
        }
    }
}
