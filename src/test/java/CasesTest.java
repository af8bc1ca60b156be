/** Promises 33 to 36: cases, and the checksum. */
public final class CasesTest {
    private static final int SUM = 2;
    private static final int PER = 5;

    public static void main(String[] args) {
        promise33Keep();
        promise34Load();
        promise34Formulas();
        promise34Later();
        promise34Refusals();
        promise35AmountOf();
        promise35Refusals();
        promise36New();
        promise36Parts();
        promise36Full();
        promise36Asks();
        Check.end("CasesTest");
    }

    private static void promise33Keep() {
        Waterline w = Models.withVariables(1);
        Check.due("33 one", w.keep(3), 1);
        Check.due("33 two", w.keep(0), 2);
        w.set(0, 5);
        Check.due("33 in the place of one", w.keep(3), 2);
        Check.due("33 the newer one", w.amountOf(3, 0), 5);
        Check.due("33 the other one stays", w.amountOf(0, 0), 0);
        Check.due("33 three", w.keep(1), 3);
        Check.due("33 four", w.keep(2), 4);
        for (int place : new int[] {4, -1, Integer.MIN_VALUE, Integer.MAX_VALUE}) {
            Check.noIndex("33 place " + place, () -> w.keep(place));
        }
        Check.due("33 without variables too", new Waterline().keep(0), 1);
    }

    private static void promise34Load() {
        Waterline w = Models.withVariables(3);
        w.set(0, 1);
        w.set(1, 2);
        w.keep(0);
        Check.due("34 nothing else", w.load(0), 0);
        w.set(1, 3);
        w.set(2, 4);
        Check.due("34 before", w.amount(1), 3);
        Check.due("34 two are set as before", w.load(0), 2);
        Check.due("34 the first", w.amount(0), 1);
        Check.due("34 the second", w.amount(1), 2);
        Check.due("34 the third", w.amount(2), 0);
        Check.due("34 the CASE is kept on", w.load(0), 0);
        w.unit(0, 0, 0, 0, 1, 100);
        w.variable(1);
        w.set(3, 5);
        w.keep(1);
        w.set(3, 6);
        Check.due("34 in their own UNITS", w.load(1), 1);
        Check.due("34 empty", emptyCase(), 0);
    }

    private static int emptyCase() {
        Waterline w = new Waterline();
        w.keep(2);
        w.variable(0);
        w.set(0, 9);
        int others = w.load(2);
        Check.due("34 nothing in it", w.amount(0), 9);
        return others;
    }

    private static void promise34Formulas() {
        Waterline w = Models.withVariables(2);
        w.set(0, 7);
        w.set(1, 8);
        w.keep(0);
        w.set(0, 70);
        w.define(0, 1);
        w.set(1, 80);
        Check.due("34 of INPUTS alone it is told", w.load(0), 1);
        Check.due("34 the FORMULA stays", w.amount(0), 8);
        w.define(0, -1);
        Check.due("34 for when it is an INPUT again", w.amount(0), 7);
        w.define(0, 1);
        w.set(1, 9);
        w.keep(0);
        w.define(0, -1);
        w.set(0, 71);
        Check.due("34 what was set of one with a FORMULA is kept", w.load(0), 1);
        Check.due("34 as it was set", w.amount(0), 7);
    }

    private static void promise34Later() {
        Waterline w = Models.withVariables(1);
        w.set(0, 3);
        w.keep(0);
        w.variable(0);
        w.set(1, 55);
        w.set(0, 4);
        Check.due("34 one that was there", w.load(0), 1);
        Check.due("34 those added later stay", w.amount(1), 55);
        Check.due("35 and are as they are", w.amountOf(0, 1), 55);
    }

    private static void promise34Refusals() {
        Waterline w = Models.withVariables(1);
        w.keep(1);
        Check.noState("34 no CASE", () -> w.load(0));
        for (int place : new int[] {4, -1, Integer.MIN_VALUE, Integer.MAX_VALUE}) {
            Check.noIndex("34 place " + place, () -> w.load(place));
        }
    }

    private static void promise35AmountOf() {
        Waterline w = Models.withVariables(3);
        w.set(0, 2000);
        w.keep(0);
        w.set(0, 4000);
        w.keep(1);
        w.set(0, 0);
        w.keep(2);
        w.set(0, 8000);
        w.define(1, w.join(PER, w.number(1000, 0), 0));
        w.define(2, w.join(SUM, 1, 0));
        Check.due("35 with the first", w.amountOf(0, 1), 500);
        Check.due("35 with the second", w.amountOf(1, 2), 4250);
        Check.due("35 an INPUT", w.amountOf(1, 0), 4000);
        Check.due("35 BROKEN is 0", w.amountOf(2, 2), 0);
        Check.due("35 nothing is changed", w.amount(1), 125);
        Check.due("35 nor is anything BROKEN", w.broken(), 0);
    }

    private static void promise35Refusals() {
        Waterline w = Models.withVariables(1);
        w.keep(1);
        Check.noState("35 no CASE", () -> w.amountOf(0, 0));
        Check.noIndex("35 no such variable", () -> w.amountOf(1, 1));
        Check.noIndex("35 no variable -1", () -> w.amountOf(1, -1));
        Check.noIndex("35 place 4", () -> w.amountOf(4, 0));
        Check.noIndex("35 place -1", () -> w.amountOf(-1, 0));
        Check.noIndex("35 index ahead of state", () -> w.amountOf(0, 1));
    }

    private static long checksum(long... numbers) {
        long d = 58061;
        for (long x : numbers) {
            d = d * 31 + x;
        }
        return d;
    }

    private static void promise36New() {
        Check.due("36 of a new object", new Waterline().digest(), checksum(1, 0, 0, 0, 0, 0, 0));
    }

    private static void promise36Parts() {
        Waterline w = new Waterline();
        w.unit(1, -2, 3, 0, 2, 1);
        w.variable(1);
        w.variable(0);
        w.set(0, 30);
        int length = w.of(0);
        int self = w.of(1);
        int sum = w.join(SUM, length, self);
        w.define(1, sum);
        Check.due("36 with a FAULT", w.digest(), checksum(
                2, 2, 3, 1, 2, 0, 1,
                1, -2, 3, 0, 60, 0, 0, 0, 0, 0, 99, 99, 99, 99, 0,
                1, 2, 1,
                0, 60, 0, 1, 3, 0, 1, 0,
                1, 0, 0, 0, 2, 1, 0, 0));
        int half = w.join(PER, self, w.number(2000, 0));
        w.define(1, w.join(SUM, half, w.number(1, 0)));
        Check.due("36 with turns", w.digest(), checksum(
                2, 2, 7, 0, 2, 2, 0,
                1, -2, 3, 0, 60, 0, 0, 0, 0, 1, 99, 99, 99, 99, 61,
                0, 0, 0, 0, 2000, 0, 0, 0, 0, 0, 0, 0, 0, 0, 1, 0, 0, 0, 0, 1,
                0, 60, 0, 1, 2, 1, 0, 0,
                1, 0, 0, 0, 2, 1, 2, 0));
    }

    /** As full as a model can be: the checksum is that of what all calls answer. */
    private static void promise36Full() {
        Waterline w = Models.withVariables(16);
        while (w.units() < 12) {
            w.unit(1, 0, 0, 0, w.units(), 1);
        }
        int last = w.join(SUM, 14, 15);
        while (w.parts() < 60) {
            last = w.join(w.parts() % 2 == 0 ? SUM : 6, last, w.parts() % 16);
        }
        for (int v = 0; v < 14; v += 3) {
            w.define(v, last - v);
        }
        w.define(1, w.parts() - 1);
        w.set(2, 700);
        w.set(15, -4);
        long d = checksum(12, 16, 60, w.faults(), w.circles(), w.mostTurns(), w.broken());
        for (int part = 0; part < 60; part++) {
            for (int dimension = 0; dimension < 4; dimension++) {
                d = d * 31 + w.exponent(part, dimension);
            }
            d = d * 31 + w.worth(part);
        }
        for (int fault = 0; fault < w.faults(); fault++) {
            d = ((d * 31 + w.ofFault(fault, 0)) * 31 + w.ofFault(fault, 1)) * 31 + w.ofFault(fault, 2);
        }
        for (int v = 0; v < 16; v++) {
            d = (d * 31 + w.leansOn(v)) * 31 + w.amount(v);
            d = (d * 31 + (w.isBroken(v) ? 1 : 0)) * 31 + w.movedBy(v);
        }
        for (int k = 0; k < w.circles(); k++) {
            d = (d * 31 + w.circle(k, 0)) * 31 + w.circle(k, 1);
            d = (d * 31 + w.circle(k, 2)) * 31 + w.circle(k, 3);
        }
        Check.due("36 of all that is answered", w.digest(), d);
    }

    /** It is the same, whatever has been asked before. */
    private static void promise36Asks() {
        Waterline asked = Models.withVariables(3);
        Waterline silent = Models.withVariables(3);
        for (int k = 0; k < 20; k++) {
            asked.digest();
            asked.set(0, k);
            silent.set(0, k);
            asked.mostTurns();
            asked.define(1, k % 2 == 0 ? 0 : 2);
            silent.define(1, k % 2 == 0 ? 0 : 2);
            asked.movedBy(1);
            asked.set(2, -k);
            silent.set(2, -k);
            asked.amountWith(2, 1, 5);
        }
        Check.due("36 what was asked does not count", asked.digest(), silent.digest());
    }
}
