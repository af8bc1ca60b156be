/** Promises 15 to 17 and 32: dimensions and faults. */
public final class FaultsTest {
    private static final int SUM = 2;
    private static final int REST = 3;
    private static final int TIMES = 4;
    private static final int PER = 5;
    private static final int LEAST = 6;
    private static final int MOST = 7;

    public static void main(String[] args) {
        promise15Exponent();
        promise15Range();
        promise15Root();
        promise15When();
        promise16Faults();
        promise17Codes();
        promise17Order();
        promise17Many();
        promise17Refusals();
        promise32FaultsWith();
        Check.end("FaultsTest");
    }

    private static void promise15Exponent() {
        Waterline w = new Waterline();
        w.unit(1, -2, 3, 0, 1, 1);
        w.unit(0, 1, 1, -3, 60, 1);
        w.variable(2);
        int a = w.number(1, 1);
        int b = w.of(0);
        int times = w.join(TIMES, a, b);
        int per = w.join(PER, a, b);
        int[] due = {1, -1, 4, -3, 1, -3, 2, 3};
        for (int d = 0; d < 4; d++) {
            Check.due("15 TIMES " + d, w.exponent(times, d), due[d]);
            Check.due("15 PER " + d, w.exponent(per, d), due[4 + d]);
        }
        for (int code : new int[] {SUM, REST, LEAST, MOST}) {
            Check.due("15 the same ones, code " + code, w.exponent(w.join(code, a, a), 2), 3);
            int unlike = w.join(code, a, b);
            Check.due("15 other ones, code " + code, w.exponent(unlike, 2), 99);
            Check.due("15 for each DIMENSION, code " + code, w.exponent(unlike, 0), 99);
            Check.due("15 one named has none, code " + code, w.exponent(w.join(code, unlike, unlike), 0), 99);
        }
        Check.noIndex("15 no such part", () -> w.exponent(w.parts(), 0));
        Check.noIndex("15 no part -1", () -> w.exponent(-1, 0));
        Check.noIndex("15 no dimension 4", () -> w.exponent(0, 4));
        Check.noIndex("15 no dimension -1", () -> w.exponent(0, -1));
    }

    private static void promise15Range() {
        Waterline w = new Waterline();
        w.unit(2, -2, 0, 0, 1, 1);
        w.unit(1, 0, 0, 0, 1, 1);
        w.unit(0, 1, 0, 0, 1, 1);
        int last = w.number(1000, 1);
        for (int k = 2; k <= 10; k++) {
            last = w.join(TIMES, last, 0);
        }
        Check.due("15 the greatest EXPONENT", w.exponent(last, 0), 20);
        Check.due("15 the least EXPONENT", w.exponent(last, 1), -20);
        int first = w.number(1000, 2);
        int second = w.number(1000, 3);
        Check.due("15 21", w.exponent(w.join(TIMES, last, first), 0), 99);
        Check.due("15 -21", w.exponent(w.join(PER, last, second), 0), 99);
        Check.due("15 back to 19", w.exponent(w.join(PER, last, first), 0), 19);
        Check.due("15 back to -19", w.exponent(w.join(TIMES, last, second), 1), -19);
        Check.due("15 one named has none", w.exponent(w.join(PER, w.join(TIMES, last, first), first), 0), 99);
    }

    private static void promise15Root() {
        Waterline w = new Waterline();
        w.unit(2, -2, 0, 0, 1, 1);
        w.unit(2, 1, 0, 0, 1, 1);
        w.unit(0, 0, 0, -3, 1, 1);
        int even = w.root(w.number(1, 1));
        Check.due("15 half of 2", w.exponent(even, 0), 1);
        Check.due("15 half of -2", w.exponent(even, 1), -1);
        int odd = w.root(w.number(1, 2));
        Check.due("15 not all are even", w.exponent(odd, 0), 99);
        Check.due("15 -3 is not even", w.exponent(w.root(w.number(1, 3)), 3), 99);
        Check.due("15 ROOT of one without", w.exponent(w.root(odd), 0), 99);
    }

    private static void promise15When() {
        Waterline w = new Waterline();
        w.unit(1, 0, 0, 0, 1, 1);
        int plain = w.number(1, 0);
        int length = w.number(1, 1);
        int none = w.join(SUM, plain, length);
        Check.due("15 those of b, whatever a", w.exponent(w.when(plain, length, length), 0), 1);
        Check.due("15 those of c are others", w.exponent(w.when(plain, length, plain), 0), 99);
        Check.due("15 a has none", w.exponent(w.when(none, length, length), 0), 99);
        Check.due("15 b has none", w.exponent(w.when(plain, none, length), 0), 99);
        Check.due("15 c has none", w.exponent(w.when(plain, length, none), 0), 99);
    }

    private static void promise16Faults() {
        Waterline w = new Waterline();
        w.unit(1, 0, 0, 0, 1, 1);
        w.variable(0);
        w.variable(1);
        int plain = w.number(1, 0);
        int length = w.number(1, 1);
        int wrong = w.join(SUM, plain, length);
        Check.due("16 parts alone have none", w.faults(), 0);
        w.define(0, wrong);
        Check.due("16 one", w.faults(), 1);
        w.define(1, wrong);
        Check.due("16 a PART that is in several FORMULAS", w.faults(), 2);
        w.define(0, w.join(TIMES, wrong, wrong));
        Check.due("16 a PART in one of which the FORMULA has none, once", w.faults(), 2);
        w.define(1, -1);
        Check.due("16 of an INPUT none", w.faults(), 1);
        w.define(0, plain);
        Check.due("16 none", w.faults(), 0);
        w.define(1, plain);
        Check.due("16 not those of the UNIT", w.faults(), 1);
    }

    private static int onlyCode(Waterline w, int part) {
        w.define(0, part);
        Check.due("17 one alone", w.faults(), 1);
        Check.due("17 of the variable", w.ofFault(0, 0), 0);
        Check.due("17 of the part", w.ofFault(0, 1), part);
        return w.ofFault(0, 2);
    }

    private static void promise17Codes() {
        Waterline w = new Waterline();
        w.unit(3, 0, 0, 0, 1, 1);
        w.variable(0);
        int plain = w.number(1000, 0);
        int length = w.number(1000, 1);
        for (int code : new int[] {SUM, REST, LEAST, MOST}) {
            Check.due("17 unlike, code " + code, onlyCode(w, w.join(code, plain, length)), 1);
        }
        Check.due("17 unlike, IF", onlyCode(w, w.when(plain, plain, length)), 1);
        Check.due("17 ROOT", onlyCode(w, w.root(length)), 2);
        int power = w.join(TIMES, length, length);
        power = w.join(TIMES, power, length);
        power = w.join(TIMES, power, power);
        Check.due("17 not those of the UNIT", onlyCode(w, power), 3);
        int inverse = w.join(PER, plain, power);
        Check.due("17 TIMES", onlyCode(w, w.join(TIMES, power, length)), 4);
        Check.due("17 PER", onlyCode(w, w.join(PER, inverse, length)), 4);
    }

    private static void noted(Waterline w, int fault, int variable, int part, int code) {
        Check.due("17 variable of " + fault, w.ofFault(fault, 0), variable);
        Check.due("17 part of " + fault, w.ofFault(fault, 1), part);
        Check.due("17 code of " + fault, w.ofFault(fault, 2), code);
    }

    private static void promise17Order() {
        Waterline w = new Waterline();
        w.unit(1, 0, 0, 0, 1, 1);
        w.variable(0);
        w.variable(0);
        w.variable(1);
        int plain = w.number(1, 0);
        int length = w.number(1, 1);
        int root = w.root(length);
        int sum = w.join(SUM, plain, length);
        int outside = w.join(REST, plain, length);
        int both = w.join(TIMES, sum, root);
        int above = w.join(SUM, both, outside);
        w.define(2, both);
        w.define(1, length);
        w.define(0, above);
        Check.due("17 how many", w.faults(), 6);
        noted(w, 0, 0, root, 2);
        noted(w, 1, 0, sum, 1);
        noted(w, 2, 0, outside, 1);
        noted(w, 3, 1, length, 3);
        noted(w, 4, 2, root, 2);
        noted(w, 5, 2, sum, 1);
        w.define(0, length);
        noted(w, 0, 0, length, 3);
        noted(w, 1, 1, length, 3);
    }

    private static void promise17Many() {
        Waterline w = new Waterline();
        w.unit(1, 0, 0, 0, 1, 1);
        int plain = w.number(1, 0);
        int length = w.number(1, 1);
        int last = w.join(SUM, plain, length);
        while (w.parts() < 59) {
            last = w.join(TIMES, last, w.join(SUM, plain, length));
        }
        for (int v = 0; v < 16; v++) {
            w.variable(0);
            w.define(v, last);
        }
        Check.due("17 as many as fit", w.faults(), 16 * 29);
        noted(w, 16 * 29 - 1, 15, last - 1, 1);
        noted(w, 29, 1, 2, 1);
    }

    private static void promise17Refusals() {
        Waterline w = new Waterline();
        w.unit(1, 0, 0, 0, 1, 1);
        w.variable(0);
        Check.noIndex("17 none", () -> w.ofFault(0, 0));
        w.define(0, w.number(1, 1));
        Check.noIndex("17 fault 1", () -> w.ofFault(1, 0));
        Check.noIndex("17 fault -1", () -> w.ofFault(-1, 0));
        Check.noArgument("17 what 3", () -> w.ofFault(0, 3));
        Check.noArgument("17 what -1", () -> w.ofFault(0, -1));
        Check.noIndex("17 index ahead of argument", () -> w.ofFault(1, 3));
    }

    private static void promise32FaultsWith() {
        Waterline w = new Waterline();
        w.unit(1, 0, 0, 0, 1, 1);
        w.variable(0);
        w.variable(1);
        int plain = w.number(1, 0);
        int length = w.number(1, 1);
        int sum = w.join(SUM, plain, length);
        int root = w.root(length);
        int both = w.join(TIMES, sum, root);
        Check.due("32 of an INPUT", w.faultsWith(0, plain), 0);
        Check.due("32 another UNIT", w.faultsWith(0, length), 1);
        Check.due("32 its own UNIT", w.faultsWith(1, length), 0);
        Check.due("32 two in it", w.faultsWith(0, both), 2);
        w.define(1, both);
        w.define(0, sum);
        Check.due("32 those of the others stay", w.faultsWith(0, length), 3);
        Check.due("32 its own go", w.faultsWith(1, length), 1);
        Check.due("32 with what it has", w.faultsWith(1, both), 3);
        Check.due("32 nothing is changed", w.faults(), 3);
        Check.due("32 the FORMULA neither", w.define(0, -1), sum);
        w.define(0, -1);
        w.define(1, plain);
        Check.due("32 the first part", w.faults(), 1);
        Check.due("32 the first part goes", w.faultsWith(1, length), 0);
        Check.due("32 the first part comes", w.faultsWith(1, plain), 1);
        Check.noIndex("32 no such variable", () -> w.faultsWith(2, plain));
        Check.noIndex("32 no variable -1", () -> w.faultsWith(-1, plain));
        Check.noIndex("32 no such part", () -> w.faultsWith(0, 5));
        Check.noIndex("32 -1 is no part", () -> w.faultsWith(0, -1));
    }
}
