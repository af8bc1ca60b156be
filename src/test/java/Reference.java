import java.math.BigInteger;
import java.util.ArrayList;
import java.util.HashMap;
import java.util.List;
import java.util.Map;
import java.util.SortedSet;
import java.util.TreeSet;

/**
 * The document read word by word: nothing is held but what is told, and every answer is worked out
 * anew (but for three memories, without which a random run would take minutes). The random runs
 * hold the program against it.
 */
final class Reference {
    record Unit(int[] exponents, int p, int q) { }

    record Part(int code, int n, int unit, int variable, List<Integer> named) { }

    record Fault(int variable, int part, int code) { }

    record Circle(SortedSet<Integer> members, boolean round, int turns, boolean open) { }

    static final class Variable {
        final int unit;
        int formula = -1;
        int set;

        Variable(int unit) {
            this.unit = unit;
        }
    }

    /** What a model is with some settings; an amount that is BROKEN is null. */
    static final class Outcome {
        final List<Circle> circles = new ArrayList<>();
        final Map<Integer, Integer> amounts = new HashMap<>();
    }

    private static final int MOST = 1000000000;

    private final List<Unit> units = new ArrayList<>();
    private final List<Variable> variables = new ArrayList<>();
    private final List<Part> parts = new ArrayList<>();
    private final List<List<Integer>> cases = new ArrayList<>();
    private int slack = 0;
    private int damping = 100;

    /** Null for a PART without DIMENSIONS; units and parts never change. */
    private final List<int[]> knownDimensions = new ArrayList<>();
    /** Both are forgotten when a variable is added or defined. */
    private List<SortedSet<Integer>> knownCircles = null;
    private List<List<Fault>> knownFaults = null;

    Reference() {
        units.add(new Unit(new int[4], 1, 1));
        for (int place = 0; place < 4; place++) {
            cases.add(null);
        }
    }

    private static void index(boolean good) {
        if (!good) {
            throw new IndexOutOfBoundsException();
        }
    }

    private static void argument(boolean good) {
        if (!good) {
            throw new IllegalArgumentException();
        }
    }

    private static void state(boolean good) {
        if (!good) {
            throw new IllegalStateException();
        }
    }

    private static boolean within(int x, int low, int high) {
        return low <= x && x <= high;
    }

    private static int kept(BigInteger x) {
        return x.max(BigInteger.valueOf(-MOST)).min(BigInteger.valueOf(MOST)).intValueExact();
    }

    private static BigInteger big(long x) {
        return BigInteger.valueOf(x);
    }

    private int without(int n, int unit) {
        return kept(big(n).multiply(big(units.get(unit).p)).divide(big(units.get(unit).q)));
    }

    private boolean isUnit(int unit) {
        return within(unit, 0, units.size() - 1);
    }

    private boolean isVariable(int variable) {
        return within(variable, 0, variables.size() - 1);
    }

    private boolean isPart(int part) {
        return within(part, 0, parts.size() - 1);
    }

    private int addPart(Part part) {
        state(parts.size() < 60);
        parts.add(part);
        knownDimensions.add(findDimensions(part));
        return parts.size() - 1;
    }

    private void forget() {
        knownCircles = null;
        knownFaults = null;
    }

    int unit(int first, int second, int third, int fourth, int p, int q) {
        int[] exponents = {first, second, third, fourth};
        for (int exponent : exponents) {
            argument(within(exponent, -3, 3));
        }
        argument(within(p, 1, 100000) && within(q, 1, 100000));
        state(units.size() < 12);
        units.add(new Unit(exponents, p, q));
        return units.size() - 1;
    }

    int variable(int unit) {
        index(isUnit(unit));
        state(variables.size() < 16);
        variables.add(new Variable(unit));
        forget();
        return variables.size() - 1;
    }

    int number(int n, int unit) {
        index(isUnit(unit));
        argument(within(n, -MOST, MOST));
        return addPart(new Part(0, n, unit, -1, List.of()));
    }

    int of(int variable) {
        index(isVariable(variable));
        return addPart(new Part(1, 0, -1, variable, List.of()));
    }

    int join(int code, int a, int b) {
        index(isPart(a) && isPart(b));
        argument(within(code, 2, 7));
        return addPart(new Part(code, 0, -1, -1, List.of(a, b)));
    }

    int when(int a, int b, int c) {
        index(isPart(a) && isPart(b) && isPart(c));
        return addPart(new Part(8, 0, -1, -1, List.of(a, b, c)));
    }

    int root(int a) {
        index(isPart(a));
        return addPart(new Part(9, 0, -1, -1, List.of(a)));
    }

    int define(int variable, int part) {
        index(isVariable(variable) && (part == -1 || isPart(part)));
        int before = variables.get(variable).formula;
        variables.get(variable).formula = part;
        forget();
        return before;
    }

    /** Not of the face: what a run has to know to choose well. */
    int formulaOf(int variable) {
        return variables.get(variable).formula;
    }

    int set(int variable, int amount) {
        index(isVariable(variable));
        argument(within(amount, -MOST, MOST));
        state(variables.get(variable).formula == -1);
        variables.get(variable).set = amount;
        return amount(variable);
    }

    int setTurns(int newSlack, int newDamping) {
        argument(within(newSlack, 0, 10000) && within(newDamping, 1, 100));
        int before = slack;
        slack = newSlack;
        damping = newDamping;
        return before;
    }

    int units() {
        return units.size();
    }

    int variables() {
        return variables.size();
    }

    int parts() {
        return parts.size();
    }

    /** Null if it has none. */
    private int[] dimensions(int number) {
        return knownDimensions.get(number);
    }

    private int[] findDimensions(Part part) {
        if (part.code == 0) {
            return units.get(part.unit).exponents;
        }
        if (part.code == 1) {
            return units.get(variables.get(part.variable).unit).exponents;
        }
        List<int[]> named = new ArrayList<>();
        for (int other : part.named) {
            int[] dimensions = dimensions(other);
            if (dimensions == null) {
                return null;
            }
            named.add(dimensions);
        }
        int[] result = new int[4];
        for (int d = 0; d < 4; d++) {
            int a = named.get(0)[d];
            int b = named.size() > 1 ? named.get(1)[d] : 0;
            int c = named.size() > 2 ? named.get(2)[d] : 0;
            boolean fits = true;
            if (part.code == 4) {
                result[d] = a + b;
            } else if (part.code == 5) {
                result[d] = a - b;
            } else if (part.code == 8) {
                result[d] = b;
                fits = b == c;
            } else if (part.code == 9) {
                result[d] = a / 2;
                fits = a == result[d] * 2;
            } else {
                result[d] = a;
                fits = a == b;
            }
            if (!fits || !within(result[d], -20, 20)) {
                return null;
            }
        }
        return result;
    }

    int exponent(int part, int dimension) {
        index(isPart(part) && within(dimension, 0, 3));
        int[] dimensions = dimensions(part);
        return dimensions == null ? 99 : dimensions[dimension];
    }

    private SortedSet<Integer> partsIn(int formula) {
        SortedSet<Integer> found = new TreeSet<>();
        List<Integer> waiting = new ArrayList<>();
        if (formula >= 0) {
            waiting.add(formula);
        }
        while (!waiting.isEmpty()) {
            int next = waiting.remove(waiting.size() - 1);
            if (found.add(next)) {
                waiting.addAll(parts.get(next).named);
            }
        }
        return found;
    }

    private List<Fault> faultsOf(int variable) {
        if (knownFaults == null) {
            knownFaults = new ArrayList<>();
            for (int v = 0; v < variables.size(); v++) {
                knownFaults.add(findFaults(v));
            }
        }
        return knownFaults.get(variable);
    }

    private List<Fault> findFaults(int variable) {
        List<Fault> found = new ArrayList<>();
        int formula = variables.get(variable).formula;
        if (formula < 0) {
            return found;
        }
        for (int number : partsIn(formula)) {
            Part part = parts.get(number);
            boolean allNamed = true;
            for (int other : part.named) {
                allNamed = allNamed && dimensions(other) != null;
            }
            if (allNamed && dimensions(number) == null) {
                int code = part.code == 9 ? 2 : part.code == 4 || part.code == 5 ? 4 : 1;
                found.add(new Fault(variable, number, code));
            }
        }
        int[] dimensions = dimensions(formula);
        if (dimensions != null && !same(dimensions, units.get(variables.get(variable).unit).exponents)) {
            found.add(new Fault(variable, formula, 3));
        }
        return found;
    }

    private static boolean same(int[] a, int[] b) {
        return a[0] == b[0] && a[1] == b[1] && a[2] == b[2] && a[3] == b[3];
    }

    private List<Fault> allFaults() {
        List<Fault> found = new ArrayList<>();
        for (int v = 0; v < variables.size(); v++) {
            found.addAll(faultsOf(v));
        }
        return found;
    }

    int faults() {
        return allFaults().size();
    }

    int ofFault(int fault, int what) {
        index(within(fault, 0, faults() - 1));
        argument(within(what, 0, 2));
        Fault found = allFaults().get(fault);
        return what == 0 ? found.variable : what == 1 ? found.part : found.code;
    }

    private SortedSet<Integer> leans(int variable) {
        SortedSet<Integer> found = new TreeSet<>();
        for (int number : partsIn(variables.get(variable).formula)) {
            if (parts.get(number).code == 1) {
                found.add(parts.get(number).variable);
            }
        }
        return found;
    }

    private static int told(Iterable<Integer> set) {
        int sum = 0;
        for (int k : set) {
            sum += 1 << k;
        }
        return sum;
    }

    int leansOn(int variable) {
        index(isVariable(variable));
        return told(leans(variable));
    }

    private SortedSet<Integer> alongAllWays(int variable) {
        SortedSet<Integer> found = new TreeSet<>(leans(variable));
        boolean more = true;
        while (more) {
            SortedSet<Integer> next = new TreeSet<>(found);
            for (int v : found) {
                next.addAll(leans(v));
            }
            more = next.size() > found.size();
            found = next;
        }
        return found;
    }

    private List<SortedSet<Integer>> circlesInOrder() {
        if (knownCircles == null) {
            knownCircles = findCircles();
        }
        return knownCircles;
    }

    private List<SortedSet<Integer>> findCircles() {
        List<SortedSet<Integer>> waiting = new ArrayList<>();
        SortedSet<Integer> placed = new TreeSet<>();
        for (int v = 0; v < variables.size(); v++) {
            if (!placed.contains(v)) {
                SortedSet<Integer> circle = new TreeSet<>(List.of(v));
                for (int other : alongAllWays(v)) {
                    if (alongAllWays(other).contains(v)) {
                        circle.add(other);
                    }
                }
                placed.addAll(circle);
                waiting.add(circle);
            }
        }
        List<SortedSet<Integer>> come = new ArrayList<>();
        SortedSet<Integer> there = new TreeSet<>();
        while (!waiting.isEmpty()) {
            SortedSet<Integer> next = null;
            for (SortedSet<Integer> circle : waiting) {
                boolean ready = true;
                for (int v : circle) {
                    for (int other : leans(v)) {
                        ready = ready && (circle.contains(other) || there.contains(other));
                    }
                }
                if (ready && (next == null || circle.first() < next.first())) {
                    next = circle;
                }
            }
            waiting.remove(next);
            there.addAll(next);
            come.add(next);
        }
        return come;
    }

    /** Null if it is BROKEN. */
    private Integer reckon(int number, Map<Integer, Integer> amounts, Map<Integer, Integer> known) {
        if (known.containsKey(number)) {
            return known.get(number);
        }
        Integer result = reckonAnew(parts.get(number), amounts, known);
        known.put(number, result);
        return result;
    }

    private Integer reckonAnew(Part part, Map<Integer, Integer> amounts, Map<Integer, Integer> known) {
        if (part.code == 0) {
            return without(part.n, part.unit);
        }
        if (part.code == 1) {
            return amounts.get(part.variable);
        }
        Integer a = reckon(part.named.get(0), amounts, known);
        if (a == null) {
            return null;
        }
        if (part.code == 8) {
            return reckon(part.named.get(a > 0 ? 1 : 2), amounts, known);
        }
        if (part.code == 9) {
            return a < 0 ? null : kept(big(a).multiply(big(1000)).sqrt());
        }
        Integer b = reckon(part.named.get(1), amounts, known);
        if (b == null || part.code == 5 && b == 0) {
            return null;
        }
        return switch (part.code) {
            case 2 -> kept(big(a).add(big(b)));
            case 3 -> kept(big(a).subtract(big(b)));
            case 4 -> kept(big(a).multiply(big(b)).divide(big(1000)));
            case 5 -> kept(big(a).multiply(big(1000)).divide(big(b)));
            case 6 -> Math.min(a, b);
            default -> Math.max(a, b);
        };
    }

    private Integer ofFormula(int variable, Map<Integer, Integer> amounts) {
        return reckon(variables.get(variable).formula, amounts, new HashMap<>());
    }

    private List<Integer> settings() {
        List<Integer> found = new ArrayList<>();
        for (Variable variable : variables) {
            found.add(variable.set);
        }
        return found;
    }

    private Outcome outcome(List<Integer> settings) {
        Outcome outcome = new Outcome();
        for (SortedSet<Integer> members : circlesInOrder()) {
            int v = members.first();
            boolean round = members.size() > 1 || leans(v).contains(v);
            boolean faulty = false;
            for (int member : members) {
                faulty = faulty || !faultsOf(member).isEmpty();
            }
            if (faulty) {
                members.forEach(member -> outcome.amounts.put(member, null));
                outcome.circles.add(new Circle(members, round, 0, false));
            } else if (round) {
                outcome.circles.add(solved(members, outcome.amounts));
            } else {
                boolean input = variables.get(v).formula == -1;
                outcome.amounts.put(v, input
                        ? Integer.valueOf(without(settings.get(v), variables.get(v).unit))
                        : ofFormula(v, outcome.amounts));
                outcome.circles.add(new Circle(members, false, 0, false));
            }
        }
        return outcome;
    }

    private Circle solved(SortedSet<Integer> members, Map<Integer, Integer> amounts) {
        members.forEach(member -> amounts.put(member, 0));
        for (int turn = 1; turn <= 40; turn++) {
            boolean still = true;
            for (int member : members) {
                Integer goal = ofFormula(member, amounts);
                if (goal == null) {
                    members.forEach(other -> amounts.put(other, null));
                    return new Circle(members, true, turn, false);
                }
                int before = amounts.get(member);
                BigInteger added = big(goal).subtract(big(before)).multiply(big(damping)).divide(big(100));
                int after = before + added.intValueExact();
                amounts.put(member, after);
                still = still && Math.abs((long) after - before) <= slack;
            }
            if (still) {
                return new Circle(members, true, turn, false);
            }
        }
        return new Circle(members, true, 40, true);
    }

    private Outcome now() {
        return outcome(settings());
    }

    int circles() {
        return now().circles.size();
    }

    int circle(int circle, int what) {
        List<Circle> circles = now().circles;
        index(within(circle, 0, circles.size() - 1));
        argument(within(what, 0, 3));
        Circle found = circles.get(circle);
        return switch (what) {
            case 0 -> told(found.members);
            case 1 -> found.round ? 1 : 0;
            case 2 -> found.turns;
            default -> found.open ? 1 : 0;
        };
    }

    int mostTurns() {
        int most = 0;
        for (Circle circle : now().circles) {
            most = Math.max(most, circle.turns);
        }
        return most;
    }

    private static int orNothing(Integer amount) {
        return amount == null ? 0 : amount;
    }

    int amount(int variable) {
        index(isVariable(variable));
        return orNothing(now().amounts.get(variable));
    }

    int amountIn(int variable, int unit) {
        index(isVariable(variable) && isUnit(unit));
        Unit asked = units.get(unit);
        argument(same(asked.exponents, units.get(variables.get(variable).unit).exponents));
        return kept(big(amount(variable)).multiply(big(asked.q)).divide(big(asked.p)));
    }

    boolean isBroken(int variable) {
        index(isVariable(variable));
        return now().amounts.get(variable) == null;
    }

    int worth(int part) {
        index(isPart(part));
        return orNothing(reckon(part, now().amounts, new HashMap<>()));
    }

    int broken() {
        int count = 0;
        for (int v = 0; v < variables.size(); v++) {
            count += isBroken(v) ? 1 : 0;
        }
        return count;
    }

    private Outcome with(int input, int amount) {
        List<Integer> settings = settings();
        settings.set(input, amount);
        return outcome(settings);
    }

    int seek(int input, int variable, int goal, int low, int high) {
        index(isVariable(input) && isVariable(variable));
        argument(within(low, -MOST, MOST) && within(high, -MOST, MOST) && high >= low);
        state(variables.get(input).formula == -1);
        int from = low;
        int to = high;
        while (from < to) {
            int m = from + (to - from) / 2;
            Integer amount = with(input, m).amounts.get(variable);
            if (amount == null || amount < goal) {
                from = m + 1;
            } else {
                to = m;
            }
        }
        return from;
    }

    int amountWith(int input, int variable, int amount) {
        index(isVariable(input) && isVariable(variable));
        argument(within(amount, -MOST, MOST));
        state(variables.get(input).formula == -1);
        return orNothing(with(input, amount).amounts.get(variable));
    }

    double slope(int input, int variable, int step) {
        index(isVariable(input) && isVariable(variable));
        argument(within(step, 1, 1000000));
        state(variables.get(input).formula == -1);
        int x = variables.get(input).set;
        int above = amountWith(input, variable, kept(big(x).add(big(step))));
        int below = amountWith(input, variable, kept(big(x).subtract(big(step))));
        return (double) ((long) above - below) / (2L * step);
    }

    int movedBy(int variable) {
        index(isVariable(variable));
        SortedSet<Integer> found = new TreeSet<>();
        for (int v = 0; v < variables.size(); v++) {
            if (variables.get(v).formula == -1 && slope(v, variable, 1000) != 0) {
                found.add(v);
            }
        }
        return told(found);
    }

    int best(int input, int variable, int from, int by, int many) {
        index(isVariable(input) && isVariable(variable));
        argument(within(from, -1000000, 1000000) && within(by, -1000000, 1000000) && within(many, 1, 20));
        state(variables.get(input).formula == -1);
        int place = -1;
        Integer greatest = null;
        for (int k = 0; k < many; k++) {
            Integer amount = with(input, from + k * by).amounts.get(variable);
            if (amount != null && (greatest == null || amount > greatest)) {
                greatest = amount;
                place = k;
            }
        }
        return place;
    }

    int faultsWith(int variable, int part) {
        index(isVariable(variable) && isPart(part));
        int before = define(variable, part);
        int found = faults();
        define(variable, before);
        return found;
    }

    int keep(int place) {
        index(within(place, 0, 3));
        cases.set(place, settings());
        int count = 0;
        for (List<Integer> one : cases) {
            count += one == null ? 0 : 1;
        }
        return count;
    }

    int load(int place) {
        index(within(place, 0, 3));
        state(cases.get(place) != null);
        int others = 0;
        for (int v = 0; v < cases.get(place).size(); v++) {
            Variable variable = variables.get(v);
            int loaded = cases.get(place).get(v);
            others += variable.formula == -1 && variable.set != loaded ? 1 : 0;
            variable.set = loaded;
        }
        return others;
    }

    int amountOf(int place, int variable) {
        index(within(place, 0, 3) && isVariable(variable));
        state(cases.get(place) != null);
        List<Integer> settings = settings();
        for (int v = 0; v < cases.get(place).size(); v++) {
            settings.set(v, cases.get(place).get(v));
        }
        return orNothing(outcome(settings).amounts.get(variable));
    }

    long digest() {
        List<Long> numbers = new ArrayList<>(List.of((long) units(), (long) variables(), (long) parts(),
                (long) faults(), (long) circles(), (long) mostTurns(), (long) broken()));
        for (int part = 0; part < parts(); part++) {
            for (int d = 0; d < 4; d++) {
                numbers.add((long) exponent(part, d));
            }
            numbers.add((long) worth(part));
        }
        for (Fault fault : allFaults()) {
            numbers.addAll(List.of((long) fault.variable, (long) fault.part, (long) fault.code));
        }
        for (int v = 0; v < variables(); v++) {
            numbers.addAll(List.of((long) leansOn(v), (long) amount(v), isBroken(v) ? 1L : 0L, (long) movedBy(v)));
        }
        for (int k = 0; k < circles(); k++) {
            for (int what = 0; what < 4; what++) {
                numbers.add((long) circle(k, what));
            }
        }
        long d = 58061;
        for (long x : numbers) {
            d = d * 31 + x;
        }
        return d;
    }
}
