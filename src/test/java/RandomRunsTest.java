import java.util.ArrayList;
import java.util.List;

/** Random runs, the same each time: every answer of the program is held against the reference. */
public final class RandomRunsTest {
    private interface Call {
        Object answer();
    }

    private static final int RUNS = 400;
    private static final int CALLS = 512;

    private long seed;
    private final List<String> told = new ArrayList<>();
    private Waterline program;
    private Reference reference;
    /** How often an odd argument is given, in a thousand. */
    private int oddness;
    private boolean plainUnits;

    public static void main(String[] args) {
        int runs = args.length > 0 ? Integer.parseInt(args[0]) : RUNS;
        long start = args.length > 1 ? Long.parseLong(args[1]) : 1;
        int wrong = 0;
        for (int run = 0; run < runs && wrong < 5; run++) {
            String fault = new RandomRunsTest().run(start + run);
            if (fault != null) {
                wrong++;
                System.out.println("run " + (start + run) + ":\n" + fault);
            }
        }
        System.out.println(runs + " random runs, " + wrong + " wrong");
        if (wrong != 0) {
            System.exit(1);
        }
    }

    private int below(int bound) {
        seed = seed * 6364136223846793005L + 1442695040888963407L;
        return (int) ((seed >>> 33) % bound);
    }

    private int between(int low, int high) {
        return low + below(high - low + 1);
    }

    private String run(long number) {
        seed = number * 7919;
        below(2);
        program = new Waterline();
        reference = new Reference();
        oddness = new int[] {0, 5, 60}[below(3)];
        plainUnits = below(2) == 0;
        told.clear();
        int calls = between(30, CALLS);
        int building = Math.min(calls / 3, between(20, 90));
        int variables = between(1, 16);
        for (int k = 0; k < calls; k++) {
            boolean first = k < building / 4 && reference.variables() < variables;
            if (!(first ? begin() : k < building ? build() : any())) {
                return String.join("\n", told);
            }
        }
        return null;
    }

    private boolean begin() {
        return below(3) == 0 ? unit() : variable();
    }

    /** Whether both answer the same. */
    private boolean same(String name, Call mine, Call due) {
        Object got = outcome(mine);
        Object want = outcome(due);
        told.add(name + " = " + got + (got.equals(want) ? "" : ", due is " + want));
        return got.equals(want);
    }

    private static Object outcome(Call call) {
        try {
            return call.answer();
        } catch (RuntimeException e) {
            return "throws." + e.getClass().getSimpleName();
        }
    }

    private boolean odd() {
        return below(1000) < oddness;
    }

    /** A number of one of so many; at times one that is not there. */
    private int one(int count) {
        if (odd() || count == 0) {
            return new int[] {-1, -2, count, count + 1, Integer.MIN_VALUE, Integer.MAX_VALUE}[below(6)];
        }
        return below(count);
    }

    /** Mostly one that is an INPUT. */
    private int input() {
        int found = one(reference.variables());
        for (int k = 0; k < 8 && hasFormula(found) && !odd(); k++) {
            found = one(reference.variables());
        }
        return found;
    }

    private boolean hasFormula(int variable) {
        boolean there = variable >= 0 && variable < program.variables();
        return there && reference.formulaOf(variable) >= 0;
    }

    private int part() {
        int count = reference.parts();
        return count > 4 && below(3) > 0 && !odd() ? between(count - 4, count - 1) : one(count);
    }

    private int of(int low, int high) {
        if (odd()) {
            return new int[] {low - 1, high + 1, low, high, Integer.MIN_VALUE, Integer.MAX_VALUE}[below(6)];
        }
        return between(low, high);
    }

    private int amount() {
        switch (below(odd() ? 9 : 7)) {
            case 0: return between(-10, 10);
            case 1: return between(-3000, 3000);
            case 2: return between(0, 100) * 1000;
            case 3: return between(-1000000, 1000000);
            case 4: return between(0, 3);
            case 5: return between(-1000000000, 1000000000);
            case 6: return between(0, 20000);
            case 7: return new int[] {1000000001, -1000000001, Integer.MAX_VALUE, Integer.MIN_VALUE}[below(4)];
            default: return new int[] {1000000000, -1000000000}[below(2)];
        }
    }

    private int factor() {
        return odd() ? of(1, 100000) : new int[] {1, 1, 1000, 60, 3600, 100000, 7, 3}[below(8)];
    }

    private boolean build() {
        switch (below(14)) {
            case 12: return spin();
            case 13: return below(3) == 0 ? tower() : spin();
            case 0: return plainUnits && below(4) > 0 ? variable() : unit();
            case 1: return variable();
            case 2: return number();
            case 3: case 4: return ofVariable();
            case 5: case 6: case 7: return join();
            case 8: return when();
            case 9: return below(3) == 0 ? root() : join();
            default: return below(4) == 0 ? set() : define();
        }
    }

    private boolean any() {
        switch (below(34)) {
            case 0: return below(3) > 0 ? set() : below(4) == 0 ? unit() : number();
            case 1: return below(3) > 0 ? define() : below(4) == 0 ? variable() : ofVariable();
            case 2: return join();
            case 3: return below(3) > 0 ? keep() : when();
            case 4: return below(3) > 0 ? load() : below(3) == 0 ? root() : join();
            case 5: case 6: return define();
            case 7: case 8: return set();
            case 9: return below(3) == 0 ? setTurns() : set();
            case 10: return same("units()", () -> program.units(), () -> reference.units());
            case 11: return same("variables()", () -> program.variables(), () -> reference.variables());
            case 12: return same("parts()", () -> program.parts(), () -> reference.parts());
            case 13: return exponent();
            case 14: return same("faults()", () -> program.faults(), () -> reference.faults());
            case 15: return ofFault();
            case 16: return leansOn();
            case 17: return same("circles()", () -> program.circles(), () -> reference.circles());
            case 18: return circle();
            case 19: return same("mostTurns()", () -> program.mostTurns(), () -> reference.mostTurns());
            case 20: return amountOfVariable();
            case 21: return amountIn();
            case 22: return isBroken();
            case 23: return worth();
            case 24: return same("broken()", () -> program.broken(), () -> reference.broken());
            case 25: return seek();
            case 26: return amountWith();
            case 27: return slope();
            case 28: return movedBy();
            case 29: return best();
            case 30: return faultsWith();
            case 31: return below(2) == 0 ? keep() : load();
            case 32: return amountOf();
            default: return same("digest()", () -> program.digest(), () -> reference.digest());
        }
    }

    /** A variable that is another one and a share of a third: several of these make a circle that turns. */
    private boolean spin() {
        int shared = one(reference.variables());
        int other = one(reference.variables());
        int variable = below(2) == 0 ? shared : one(reference.variables());
        int share = below(8) == 0 ? between(-3000, 3000) : between(-990, 990);
        int code = of(2, 3);
        int count = reference.parts();
        return same("number(" + share + ", 0)", () -> program.number(share, 0), () -> reference.number(share, 0))
                && same("of(" + shared + ")", () -> program.of(shared), () -> reference.of(shared))
                && same("join(4, ..)", () -> program.join(4, count, count + 1), () -> reference.join(4, count, count + 1))
                && same("of(" + other + ")", () -> program.of(other), () -> reference.of(other))
                && same("join(" + code + ", ..)", () -> program.join(code, count + 3, count + 2),
                        () -> reference.join(code, count + 3, count + 2))
                && same("define(" + variable + ", last)", () -> program.define(variable, reference.parts() - 1),
                        () -> reference.define(variable, reference.parts() - 1));
    }

    /** Squares of squares: the EXPONENTS leave what is allowed. */
    private boolean tower() {
        boolean fine = ofVariable();
        for (int k = 0; k < 6; k++) {
            int last = reference.parts() - 1;
            int code = of(4, 5);
            int other = below(4) == 0 ? part() : last;
            fine = fine && same("join(" + code + ", " + last + ", " + other + ")",
                    () -> program.join(code, last, other), () -> reference.join(code, last, other));
        }
        return fine;
    }

    private boolean unit() {
        int reach = below(2);
        int[] e = {of(-reach, reach), of(-reach, reach), of(0, reach), odd() ? of(-3, 3) : 0};
        if (plainUnits) {
            e = new int[] {0, 0, 0, odd() ? of(-3, 3) : 0};
        }
        int[] x = e;
        int p = factor();
        int q = factor();
        return same("unit(" + x[0] + ", " + x[1] + ", " + x[2] + ", " + x[3] + ", " + p + ", " + q + ")",
                () -> program.unit(x[0], x[1], x[2], x[3], p, q), () -> reference.unit(x[0], x[1], x[2], x[3], p, q));
    }

    private boolean variable() {
        int unit = one(reference.units());
        return same("variable(" + unit + ")", () -> program.variable(unit), () -> reference.variable(unit));
    }

    /** Often a factor below 1: with it a circle may come to rest. */
    private boolean number() {
        int n = below(3) == 0 ? between(-990, 990) : amount();
        int unit = one(reference.units());
        return same("number(" + n + ", " + unit + ")", () -> program.number(n, unit), () -> reference.number(n, unit));
    }

    private boolean ofVariable() {
        int variable = one(reference.variables());
        return same("of(" + variable + ")", () -> program.of(variable), () -> reference.of(variable));
    }

    private boolean join() {
        int code = of(2, 7);
        int a = part();
        int b = below(5) == 0 ? a : part();
        return same("join(" + code + ", " + a + ", " + b + ")",
                () -> program.join(code, a, b), () -> reference.join(code, a, b));
    }

    private boolean when() {
        int a = part();
        int b = part();
        int c = part();
        return same("when(" + a + ", " + b + ", " + c + ")",
                () -> program.when(a, b, c), () -> reference.when(a, b, c));
    }

    private boolean root() {
        int a = part();
        return same("root(" + a + ")", () -> program.root(a), () -> reference.root(a));
    }

    /** Mostly with what raises no FAULT, so that enough is left that is reckoned. */
    private boolean define() {
        int variable = one(reference.variables());
        int part = below(3) == 0 ? -1 : part();
        for (int k = 0; k < 6 && below(20) > 0 && goesWrong(variable, part); k++) {
            part = part();
        }
        int chosen = part;
        return same("define(" + variable + ", " + chosen + ")",
                () -> program.define(variable, chosen), () -> reference.define(variable, chosen));
    }

    private boolean goesWrong(int variable, int part) {
        boolean there = variable >= 0 && variable < reference.variables() && part >= 0 && part < reference.parts();
        return there && reference.faultsWith(variable, part) > reference.faults();
    }

    private boolean set() {
        int variable = input();
        int amount = amount();
        return same("set(" + variable + ", " + amount + ")",
                () -> program.set(variable, amount), () -> reference.set(variable, amount));
    }

    private boolean setTurns() {
        int slack = below(2) == 0 ? of(0, 10000) : of(0, 20);
        int damping = of(1, 100);
        return same("setTurns(" + slack + ", " + damping + ")",
                () -> program.setTurns(slack, damping), () -> reference.setTurns(slack, damping));
    }

    private boolean exponent() {
        int part = part();
        int dimension = of(0, 3);
        return same("exponent(" + part + ", " + dimension + ")",
                () -> program.exponent(part, dimension), () -> reference.exponent(part, dimension));
    }

    private boolean ofFault() {
        int fault = one(reference.faults());
        int what = of(0, 2);
        return same("ofFault(" + fault + ", " + what + ")",
                () -> program.ofFault(fault, what), () -> reference.ofFault(fault, what));
    }

    private boolean leansOn() {
        int variable = one(reference.variables());
        return same("leansOn(" + variable + ")",
                () -> program.leansOn(variable), () -> reference.leansOn(variable));
    }

    private boolean circle() {
        int circle = one(reference.circles());
        int what = of(0, 3);
        return same("circle(" + circle + ", " + what + ")",
                () -> program.circle(circle, what), () -> reference.circle(circle, what));
    }

    private boolean amountOfVariable() {
        int variable = one(reference.variables());
        return same("amount(" + variable + ")", () -> program.amount(variable), () -> reference.amount(variable));
    }

    private boolean amountIn() {
        int variable = one(reference.variables());
        int unit = one(reference.units());
        return same("amountIn(" + variable + ", " + unit + ")",
                () -> program.amountIn(variable, unit), () -> reference.amountIn(variable, unit));
    }

    private boolean isBroken() {
        int variable = one(reference.variables());
        return same("isBroken(" + variable + ")",
                () -> program.isBroken(variable), () -> reference.isBroken(variable));
    }

    private boolean worth() {
        int part = part();
        return same("worth(" + part + ")", () -> program.worth(part), () -> reference.worth(part));
    }

    private boolean seek() {
        int input = input();
        int variable = one(reference.variables());
        int goal = amount();
        int a = amount();
        int b = amount();
        int low = odd() ? a : Math.min(a, b);
        int high = odd() ? b : Math.max(a, b);
        return same("seek(" + input + ", " + variable + ", " + goal + ", " + low + ", " + high + ")",
                () -> program.seek(input, variable, goal, low, high),
                () -> reference.seek(input, variable, goal, low, high));
    }

    private boolean amountWith() {
        int input = input();
        int variable = one(reference.variables());
        int amount = amount();
        return same("amountWith(" + input + ", " + variable + ", " + amount + ")",
                () -> program.amountWith(input, variable, amount),
                () -> reference.amountWith(input, variable, amount));
    }

    private boolean slope() {
        int input = input();
        int variable = one(reference.variables());
        int step = below(2) == 0 ? of(1, 3000) : of(1, 1000000);
        return same("slope(" + input + ", " + variable + ", " + step + ")",
                () -> program.slope(input, variable, step), () -> reference.slope(input, variable, step));
    }

    private boolean movedBy() {
        int variable = one(reference.variables());
        return same("movedBy(" + variable + ")",
                () -> program.movedBy(variable), () -> reference.movedBy(variable));
    }

    private boolean best() {
        int input = input();
        int variable = one(reference.variables());
        int from = below(2) == 0 ? of(-10000, 10000) : of(-1000000, 1000000);
        int by = below(2) == 0 ? of(-3000, 3000) : of(-1000000, 1000000);
        int many = of(1, 20);
        return same("best(" + input + ", " + variable + ", " + from + ", " + by + ", " + many + ")",
                () -> program.best(input, variable, from, by, many),
                () -> reference.best(input, variable, from, by, many));
    }

    private boolean faultsWith() {
        int variable = one(reference.variables());
        int part = part();
        return same("faultsWith(" + variable + ", " + part + ")",
                () -> program.faultsWith(variable, part), () -> reference.faultsWith(variable, part));
    }

    private boolean keep() {
        int place = of(0, 3);
        return same("keep(" + place + ")", () -> program.keep(place), () -> reference.keep(place));
    }

    private boolean load() {
        int place = of(0, 3);
        return same("load(" + place + ")", () -> program.load(place), () -> reference.load(place));
    }

    private boolean amountOf() {
        int place = of(0, 3);
        int variable = one(reference.variables());
        return same("amountOf(" + place + ", " + variable + ")",
                () -> program.amountOf(place, variable), () -> reference.amountOf(place, variable));
    }
}
