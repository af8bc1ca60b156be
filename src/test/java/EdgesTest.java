import java.math.BigInteger;
import java.util.ArrayList;
import java.util.List;

/**
 * Promise by promise, what is allowed at its edges: the smallest and the largest arguments, a model
 * with nothing in it, and one that is full. What is refused just beyond stands in RefusalsTest.
 */
public final class EdgesTest {
    private static final int SUM = 2;
    private static final int REST = 3;
    private static final int TIMES = 4;
    private static final int PER = 5;
    private static final int MOST = 7;
    private static final int BILLION = 1000000000;
    private static final int MILLION = 1000000;
    private static final int ALL = 65535;

    public static void main(String[] args) {
        promise1Nothing();
        promise2Edges();
        promise2RefusedTakesNoNumber();
        promise3Edges();
        promises4To8LastPart();
        promises4To8RefusedTakesNoNumber();
        promise9Edges();
        promise9RoundTrip();
        promise10Edges();
        promise11Edges();
        promise15Last();
        promise17Most();
        promise18All();
        promise19Counts();
        promise21Edges();
        promise23Edges();
        promise25Last();
        promise26All();
        promise27Middle();
        promise27Edges();
        promise27BrokenAllAlong();
        promise28Edges();
        promise29Edges();
        promise29Broken();
        promise30All();
        promise30AtTheLimit();
        promise31Edges();
        promise31Far();
        promise32Edges();
        promise33To35Places();
        promise34Full();
        promise34LimitsAndLater();
        promise36WrapsAround();
        Check.end("EdgesTest");
    }

    private static Waterline full() {
        return Calls.made(new Waterline(), Models.FULL);
    }

    private static void promise1Nothing() {
        Waterline w = new Waterline();
        Check.due("1 a CASE of nothing", w.keep(0), 1);
        Check.due("1 sets nothing", w.load(0), 0);
        Check.due("1 SLACK", w.setTurns(7, 100), 0);
        Check.due("1 no TURNS", w.mostTurns(), 0);
        Check.due("1 the number of the first UNIT", w.unit(0, 0, 0, 0, 1, 1), 1);
        Check.due("1 the number of the first variable", w.variable(0), 0);
        Check.due("1 the number of the first PART", w.of(0), 0);
    }

    private static void promise2Edges() {
        for (int d = 0; d < 4; d++) {
            Waterline w = new Waterline();
            int[] e = new int[4];
            e[d] = -3;
            w.unit(e[0], e[1], e[2], e[3], 1, 100000);
            e[d] = 3;
            w.unit(e[0], e[1], e[2], e[3], 100000, 1);
            int low = w.number(1, 1);
            int high = w.number(1, 2);
            for (int other = 0; other < 4; other++) {
                Check.due("2 -3 of " + d, w.exponent(low, other), other == d ? -3 : 0);
                Check.due("2 3 of " + d, w.exponent(high, other), other == d ? 3 : 0);
            }
        }
        Waterline w = new Waterline();
        for (int k = 1; k < 11; k++) {
            w.unit(0, 0, 0, 0, 1, 1);
        }
        Check.due("2 the twelfth", w.unit(0, 0, 0, -3, 9, 2), 11);
        int part = w.number(4, 11);
        Check.due("2 its FACTOR", w.worth(part), 18);
        Check.due("2 its EXPONENT", w.exponent(part, 3), -3);
    }

    private static void promise2RefusedTakesNoNumber() {
        Waterline w = new Waterline();
        Check.noArgument("2 refused", () -> w.unit(3, 3, 3, 4, 5, 5));
        Check.noArgument("2 refused too", () -> w.unit(3, 3, 3, 3, 5, 0));
        Check.due("2 the next number", w.unit(0, 0, 0, 0, 1, 1), 1);
        Check.due("2 nothing of the refused one", w.exponent(w.number(8, 1), 0), 0);
        Check.due("2 nor of its FACTOR", w.worth(0), 8);
    }

    private static void promise3Edges() {
        Waterline w = new Waterline();
        for (int k = 1; k < 12; k++) {
            w.unit(0, 0, 0, k % 4, k, 1);
        }
        Check.due("3 of the first UNIT", w.variable(0), 0);
        Check.due("3 of the last UNIT", w.variable(11), 1);
        Check.noIndex("3 refused", () -> w.variable(12));
        Check.due("3 the next number", w.variable(11), 2);
        Check.due("3 the last UNIT", w.set(2, 5), 55);
        while (w.variables() < 15) {
            w.variable(0);
        }
        Check.due("3 the sixteenth", w.variable(11), 15);
        Check.due("3 its UNIT", w.exponent(w.of(15), 3), 3);
        Check.due("3 an INPUT", w.set(15, -5), -55);
        Check.due("3 in its order", w.circle(15, 0), 1 << 15);
    }

    /** A model with so many parts; the last of them is the number 1000. */
    private static Waterline withParts(int many) {
        Waterline w = new Waterline();
        w.variable(0);
        while (w.parts() < many) {
            w.number(1000, 0);
        }
        return w;
    }

    private static void promises4To8LastPart() {
        Check.due("4 the sixtieth", withParts(59).number(BILLION, 0), 59);
        Check.due("5 the sixtieth", withParts(59).of(0), 59);
        for (int code = SUM; code <= MOST; code++) {
            Waterline w = withParts(59);
            Check.due("6 the sixtieth, code " + code, w.join(code, 58, 0), 59);
            Check.due("6 is reckoned, code " + code, w.worth(59), new int[] {2000, 0, 1000, 1000, 1000, 1000}[code - 2]);
        }
        Check.due("7 the sixtieth", withParts(59).when(0, 58, 58), 59);
        Check.due("8 the sixtieth", withParts(59).root(58), 59);
        Waterline w = withParts(60);
        w.define(0, 59);
        Check.due("2 FORMULA of the sixtieth", w.amount(0), 1000);
        Check.due("14 sixty", w.parts(), 60);
    }

    private static void promises4To8RefusedTakesNoNumber() {
        Waterline w = Models.withVariables(1);
        Check.noIndex("4 refused", () -> w.number(0, 1));
        Check.noArgument("4 refused too", () -> w.number(BILLION + 1, 0));
        Check.due("4 the next number", w.number(3, 0), 1);
        Check.noIndex("5 refused", () -> w.of(1));
        Check.due("5 the next number", w.of(0), 2);
        Check.noIndex("6 it itself is no PART yet", () -> w.join(SUM, 3, 0));
        Check.noIndex("6 nor as b", () -> w.join(SUM, 0, 3));
        Check.noArgument("6 refused", () -> w.join(8, 0, 0));
        Check.due("6 the next number", w.join(SUM, 2, 2), 3);
        Check.noIndex("7 it itself is no PART yet", () -> w.when(0, 0, 4));
        Check.due("7 the next number", w.when(3, 3, 3), 4);
        Check.noIndex("8 it itself is no PART yet", () -> w.root(5));
        Check.due("8 the next number", w.root(4), 5);
    }

    private static void promise9Edges() {
        Waterline w = full();
        Check.due("9 the last variable", w.define(15, 59), -1);
        Check.due("9 the last PART before", w.define(15, 0), 59);
        Check.due("9 the first PART before", w.define(15, -1), 0);
        Check.due("9 the first variable", w.define(0, 0), -1);
        Check.due("9 leans on itself", w.leansOn(0), 1);
        Check.due("9 an INPUT", w.define(0, -1), 0);
        Check.due("9 an INPUT before", w.define(0, -1), -1);
        Check.due("9 with what was set last", w.amount(0), 90000000);
    }

    private static void promise9RoundTrip() {
        Waterline w = Models.withVariables(2);
        w.set(0, BILLION);
        w.define(0, 1);
        Check.noState("10 refused", () -> w.set(0, 5));
        w.set(1, -BILLION);
        Check.due("9 as its FORMULA", w.amount(0), -BILLION);
        Check.noIndex("9 refused", () -> w.define(0, 2));
        Check.due("9 as its FORMULA still", w.amount(0), -BILLION);
        Check.due("9 what it was", w.define(0, -1), 1);
        Check.due("9 what was set last, and not refused", w.amount(0), BILLION);
    }

    private static void promise10Edges() {
        Waterline w = full();
        Check.due("10 the greatest", w.set(15, BILLION), BILLION);
        Check.due("10 it stands", w.amount(15), BILLION);
        Check.due("10 the least", w.set(15, -BILLION), -BILLION);
        Check.due("10 it stands too", w.amount(15), -BILLION);
        Check.due("10 the first", w.set(0, 1), 1000);
        Check.due("10 KEPT, in a great UNIT", w.set(7, 10001), BILLION);
        Check.due("10 in a small UNIT", w.set(8, -99999), 0);
        Check.due("10 nothing", w.set(0, 0), 0);
    }

    private static void promise11Edges() {
        Waterline w = Models.withVariables(2);
        w.define(1, w.join(SUM, 1, 0));
        Check.due("11 the least", w.setTurns(0, 1), 0);
        Check.due("11 the greatest", w.setTurns(10000, 100), 0);
        w.set(0, 10000);
        Check.due("11 the greatest SLACK", w.mostTurns(), 1);
        Check.noArgument("11 refused for the SLACK", () -> w.setTurns(10001, 1));
        Check.noArgument("11 refused for the DAMPING", () -> w.setTurns(0, 101));
        Check.due("11 neither is changed", w.mostTurns(), 1);
        Check.due("11 nor the DAMPING", w.amount(1), 10000);
        Check.due("11 the SLACK before", w.setTurns(9999, 100), 10000);
        Check.due("11 from now on", w.mostTurns(), 40);
        Check.due("11 also 400000", w.amount(1), 400000);
    }

    private static void promise15Last() {
        Waterline w = full();
        Check.due("15 the first one", w.exponent(0, 0), 1);
        Check.due("15 the last one", w.exponent(59, 3), 0);
        Check.due("15 of the last UNIT", w.exponent(14, 3), -1);
        for (int d = 0; d < 4; d++) {
            Check.due("15 all or none, " + d, w.exponent(24, d), 99);
            Check.due("15 some, though 0, " + d, w.exponent(18, d), 0);
        }
    }

    /** No FORMULA can have more: 39 roots, and 19 IFs that bring them together. */
    private static void promise17Most() {
        Waterline w = new Waterline();
        int length = w.number(1, w.unit(1, 0, 0, 0, 1, 1));
        for (int k = 0; k < 39; k++) {
            w.root(length);
        }
        int last = 1;
        for (int next = 2; next < 40; next += 2) {
            last = w.when(last, next, next + 1);
        }
        for (int v = 0; v < 16; v++) {
            w.variable(0);
            w.define(v, last);
        }
        int many = w.faults();
        Check.due("16 as many as can be", many, 16 * 39);
        Check.due("17 the first one", w.ofFault(0, 0), 0);
        Check.due("17 the first PART", w.ofFault(0, 1), 1);
        Check.due("17 the last one", w.ofFault(many - 1, 0), 15);
        Check.due("17 the last PART", w.ofFault(many - 1, 1), 39);
        Check.due("17 its code", w.ofFault(many - 1, 2), 2);
        Check.noIndex("17 just beyond", () -> w.ofFault(many, 0));
        Check.due("26 all are BROKEN", w.broken(), 16);
        Check.due("19 each alone", w.circles(), 16);
    }

    private static void promise18All() {
        Waterline w = Models.withVariables(16);
        int all = 0;
        for (int v = 1; v < 16; v++) {
            all = w.join(SUM, all, v);
        }
        w.define(15, all);
        Check.due("18 all, and itself", w.leansOn(15), ALL);
        Check.due("18 none", w.leansOn(0), 0);
        w.define(0, 15);
        Check.due("18 the last one", w.leansOn(0), 1 << 15);
        Check.due("20 the two of them", w.circle(14, 0), 1 << 15 | 1);
        Check.noIndex("19 just beyond", () -> w.circle(15, 0));
    }

    private static void promise19Counts() {
        Check.due("19 nothing in it", new Waterline().circles(), 0);
        Check.due("19 one", Models.withVariables(1).circles(), 1);
        Waterline w = Models.withVariables(16);
        Check.due("19 as many as can be", w.circles(), 16);
        for (int k = 0; k < 16; k++) {
            Check.due("20 by numbers " + k, w.circle(k, 0), 1 << k);
        }
        for (int v = 0; v < 16; v++) {
            w.define(v, v ^ 1);
        }
        Check.due("19 in pairs", w.circles(), 8);
        Check.due("20 the last pair", w.circle(7, 0), 3 << 14);
        Check.noIndex("20 just beyond", () -> w.circle(8, 0));
    }

    private static void promise21Edges() {
        Check.due("21 nothing in it", new Waterline().mostTurns(), 0);
        Waterline w = Models.withVariables(16);
        Check.due("21 as many CIRCLES as can be, none ROUND", w.mostTurns(), 0);
        for (int v = 0; v < 16; v++) {
            w.define(v, v);
        }
        Check.due("21 all of them ROUND", w.mostTurns(), 1);
        w.define(15, w.join(SUM, 15, w.number(1, 0)));
        Check.due("21 the last one has the most", w.mostTurns(), 40);
        Check.due("20 which are its own", w.circle(15, 2), 40);
        w.define(15, 0);
        w.define(0, 15);
        Check.due("19 one less", w.circles(), 15);
        Check.due("21 nothing of the one that is no more", w.mostTurns(), 1);
    }

    private static void promise23Edges() {
        Waterline w = full();
        Check.due("23 the first UNIT", w.amountIn(15, 0), 0);
        Check.due("23 the last UNIT", w.amountIn(14, 11), 0);
        w.set(15, 12345);
        Check.due("23 by 1 / 100000", w.amountIn(15, 7), BILLION);
        Check.due("23 by 100000", w.amountIn(15, 6), 0);
        Check.due("23 by 100000 / 100000", w.amountIn(15, 8), 12345);
        w.set(13, -100);
        Check.due("23 in its own UNIT, -233 by 7 / 3", w.amountIn(13, 10), -99);
        Check.due("23 BROKEN", w.amountIn(12, 5), 0);
    }

    private static void promise25Last() {
        Waterline w = full();
        Check.due("25 the first PART", w.worth(0), 90000000);
        Check.due("25 the last PART", w.worth(59), 4000 + 28 * 1000);
        Check.due("25 of what is BROKEN", w.worth(23), 0);
        Check.due("25 without DIMENSIONS", w.worth(24), 90000000 + 1800000);
        Check.due("25 another one", w.worth(25), 300000);
    }

    private static void promise26All() {
        Waterline w = Models.withVariables(16);
        int none = w.root(w.number(-1, 0));
        for (int v = 0; v < 16; v++) {
            Check.due("26 so many", w.broken(), v);
            w.define(v, none);
            Check.due("24 it is BROKEN", w.isBroken(v), true);
        }
        Check.due("26 all", w.broken(), 16);
        Check.due("26 none at all", new Waterline().broken(), 0);
    }

    /** The goal is met by -2 and by what is above -1: which one is found tells what m was. */
    private static void promise27Middle() {
        Waterline w = Models.withVariables(2);
        int two = w.number(2, 0);
        int one = w.number(1, 0);
        int nil = w.number(0, 0);
        int above = w.join(SUM, 0, two);
        int isMinusTwo = w.when(above, nil, w.when(w.join(REST, nil, above), nil, one));
        w.define(1, w.when(w.join(SUM, 0, one), one, isMinusTwo));
        int[] due = {0, 1, 0, 1};
        for (int x = -3; x <= 0; x++) {
            Check.due("27 with " + x, w.amountWith(0, 1, x), due[x + 3]);
        }
        Check.due("27 m is low + (high - low) / 2, cut", w.seek(0, 1, 1, -3, 0), -2);
        Check.due("27 m is -1", w.seek(0, 1, 1, -3, 1), 0);
        Check.due("27 two of them, m is low", w.seek(0, 1, 1, -2, -1), -2);
        Check.due("27 two of them, low is m + 1", w.seek(0, 1, 1, -3, -2), -2);
        Check.due("27 none in it", w.seek(0, 1, 2, -3, 1), 1);
        Check.due("27 the goal itself is enough", w.seek(0, 1, 1, 0, 9), 0);
    }

    private static void promise27Edges() {
        Waterline w = Models.withVariables(1);
        for (int edge : new int[] {BILLION, -BILLION}) {
            Check.due("27 low is high, below the goal", w.seek(0, 0, Integer.MAX_VALUE, edge, edge), edge);
            Check.due("27 low is high, above it", w.seek(0, 0, Integer.MIN_VALUE, edge, edge), edge);
        }
        for (int goal : new int[] {-BILLION, 1 - BILLION, -1, 0, 1, BILLION - 1, BILLION}) {
            Check.due("27 all that can be set", w.seek(0, 0, goal, -BILLION, BILLION), goal);
        }
        Check.due("27 beyond all", w.seek(0, 0, BILLION + 1, -BILLION, BILLION), BILLION);
        Check.due("27 high up", w.seek(0, 0, BILLION, BILLION - 1, BILLION), BILLION);
        Check.due("27 low down", w.seek(0, 0, -BILLION, -BILLION, 1 - BILLION), -BILLION);
    }

    private static void promise27BrokenAllAlong() {
        Waterline w = Models.withVariables(2);
        w.define(1, w.root(w.number(-1, 0)));
        for (int goal : new int[] {Integer.MIN_VALUE, -2000000001, -2000000000, -1999999999, 0, Integer.MAX_VALUE}) {
            Check.due("27 BROKEN, goal " + goal, w.seek(0, 1, goal, -BILLION, BILLION), BILLION);
        }
    }

    private static void promise28Edges() {
        Waterline w = full();
        Check.due("28 the last variable", w.amountWith(15, 15, BILLION), BILLION);
        Check.due("28 the least", w.amountWith(15, 15, -BILLION), -BILLION);
        Check.due("28 KEPT", w.amountWith(7, 7, BILLION), BILLION);
        Check.due("28 of what was BROKEN", w.amountWith(15, 6, 1), MILLION);
        Check.due("28 what is BROKEN still", w.amountWith(15, 6, 0), 0);
        Check.due("28 with a FAULT", w.amountWith(0, 10, 5), 0);
        Check.due("28 nothing is changed", w.amount(15), 0);
    }

    private static void promise29Edges() {
        Waterline w = Models.withVariables(1);
        for (int edge : new int[] {BILLION, -BILLION}) {
            w.set(0, edge);
            Check.due("29 KEPT, the least step at " + edge, w.slope(0, 0, 1), 0.5);
            Check.due("29 KEPT, the greatest step at " + edge, w.slope(0, 0, MILLION), 0.5);
        }
        w.set(0, BILLION - 1);
        Check.due("29 up to the limit", w.slope(0, 0, 1), 1.0);
        Check.due("29 and beyond", w.slope(0, 0, 2), 0.75);
        w.set(0, 0);
        Check.due("29 the greatest step", w.slope(0, 0, MILLION), 1.0);
        w.unit(0, 0, 0, 0, 100000, 1);
        w.variable(1);
        Check.due("29 from limit to limit", w.slope(1, 1, 10000), 100000.0);
        Check.due("29 KEPT without UNIT", w.slope(1, 1, MILLION), 1000.0);
        w.set(1, 10000);
        Check.due("29 KEPT on one side", w.slope(1, 1, 1), 50000.0);
        w.define(0, w.join(REST, w.number(0, 0), w.of(1)));
        w.set(1, 0);
        Check.due("29 down from limit to limit", w.slope(1, 0, 10000), -100000.0);
        Check.due("29 as far as it goes", w.slope(1, 0, MILLION), -1000.0);
    }

    private static void promise29Broken() {
        Waterline w = Models.withVariables(3);
        w.define(1, w.root(0));
        w.set(0, -1);
        Check.due("29 BROKEN below", w.slope(0, 1, 1), 0.0);
        Check.due("29 BROKEN below, far", w.slope(0, 1, 1001), 1000 / 2002.0);
        w.set(0, -5);
        Check.due("29 both BROKEN", w.slope(0, 1, 5), 0.0);
        w.define(2, w.root(w.join(REST, w.number(1000, 0), 0)));
        w.set(0, 1000);
        Check.due("29 BROKEN above", w.slope(0, 2, 1000), -1000 / 2000.0);
    }

    private static void promise30All() {
        Waterline w = Models.withVariables(16);
        int all = 0;
        for (int v = 1; v < 15; v++) {
            all = w.join(SUM, all, v);
        }
        w.define(15, all);
        Check.due("30 all that are INPUTS", w.movedBy(15), ALL >> 1);
        Check.due("30 one alone", w.movedBy(0), 1);
        w.define(0, 15);
        Check.due("30 not what has a FORMULA", w.movedBy(0) & 1 << 15, 0);
        w.define(15, -1);
        Check.due("30 the last one", w.movedBy(15), 1 << 15);
        w.define(15, w.root(w.number(-1, 0)));
        Check.due("30 none moves what is BROKEN", w.movedBy(15), 0);
    }

    private static void promise30AtTheLimit() {
        Waterline w = Models.withVariables(2);
        w.define(1, 0);
        for (int edge : new int[] {BILLION, -BILLION}) {
            w.set(0, edge);
            Check.due("30 one step is KEPT, at " + edge, w.movedBy(1), 1);
        }
        w.unit(0, 0, 0, 0, 100000, 1);
        w.variable(1);
        w.set(2, BILLION);
        Check.due("30 both are KEPT without UNIT", w.movedBy(2), 0);
        w.set(2, 11000);
        Check.due("30 both just at the limit", w.movedBy(2), 0);
        w.set(2, 10999);
        Check.due("30 one just below it", w.movedBy(2), 4);
    }

    private static void promise31Edges() {
        Waterline w = Models.withVariables(2);
        Check.due("31 the twentieth counts", w.best(0, 0, 0, 1, 20), 19);
        Check.due("31 the nineteenth is the last", w.best(0, 0, 0, 1, 19), 18);
        Check.due("31 one alone", w.best(0, 0, -MILLION, -MILLION, 1), 0);
        Check.due("31 by nothing", w.best(0, 0, MILLION, 0, 20), 0);
        w.define(1, w.root(w.number(-1, 0)));
        Check.due("31 BROKEN all along", w.best(0, 1, -MILLION, MILLION, 20), -1);
        Check.due("31 BROKEN, one alone", w.best(0, 1, 0, 0, 1), -1);
    }

    /** The twentieth is from + 19 * by. */
    private static void promise31Far() {
        Waterline w = Models.withVariables(2);
        int last = w.number(20 * MILLION, 0);
        int far = w.join(REST, 0, last);
        int one = w.number(1, 0);
        w.define(1, w.when(w.join(SUM, far, one), one, w.number(-BILLION, 0)));
        Check.due("31 as far as can be", w.best(0, 1, MILLION, MILLION, 20), 19);
        Check.due("31 not so far", w.best(0, 1, MILLION - 1, MILLION, 20), 0);
        Check.due("31 BROKEN ones left out, the last is not", brokenButTheLast(), 19);
    }

    private static int brokenButTheLast() {
        Waterline w = Models.withVariables(2);
        int under = w.join(REST, w.number(-20 * MILLION, 0), 0);
        w.define(1, w.join(REST, w.number(-BILLION, 0), w.root(under)));
        return w.best(0, 1, -MILLION, -MILLION, 20);
    }

    private static void promise32Edges() {
        Waterline w = full();
        int now = w.faults();
        Check.due("32 how many there are", now, 4);
        Check.due("32 the last variable and PART", w.faultsWith(15, 59), 4);
        Check.due("32 the first ones", w.faultsWith(0, 0), 4);
        Check.due("32 one more", w.faultsWith(0, 59), 5);
        Check.due("32 two more", w.faultsWith(15, 26), 6);
        Check.due("32 two less", w.faultsWith(11, 12), 3);
        Check.due("32 nothing is changed", w.faults(), now);
        Check.due("32 nor in the FORMULA", w.define(11, 26), 26);
    }

    private static void promise33To35Places() {
        Waterline w = Models.withVariables(1);
        for (int place = 0; place < 4; place++) {
            int asked = place;
            Check.noState("34 none is kept in " + place, () -> w.load(asked));
            Check.noState("35 none is kept in " + place, () -> w.amountOf(asked, 0));
            w.set(0, place * 10 + 5);
            Check.due("33 how many then", w.keep(place), place + 1);
        }
        for (int place = 3; place >= 0; place--) {
            Check.due("35 of the place " + place, w.amountOf(place, 0), place * 10 + 5);
            Check.due("34 of the place " + place, w.load(place), place == 3 ? 0 : 1);
            Check.due("34 it is set, " + place, w.amount(0), place * 10 + 5);
            Check.due("33 in the place of one, " + place, w.keep(place), 4);
        }
    }

    private static void promise34Full() {
        Waterline w = Models.withVariables(16);
        w.keep(0);
        for (int v = 0; v < 16; v++) {
            w.set(v, v % 2 == 0 ? BILLION : -BILLION);
        }
        w.keep(3);
        Check.due("35 the last one of the first CASE", w.amountOf(0, 15), 0);
        Check.due("34 all are others", w.load(0), 16);
        Check.due("34 the last one", w.amount(15), 0);
        Check.due("35 the last one of the last CASE", w.amountOf(3, 15), -BILLION);
        w.define(15, 0);
        Check.due("34 all but the one with a FORMULA", w.load(3), 15);
        Check.due("34 as its FORMULA", w.amount(15), BILLION);
        w.define(15, -1);
        Check.due("34 and as it is set", w.amount(15), -BILLION);
    }

    private static void promise34LimitsAndLater() {
        Waterline w = Models.withVariables(2);
        w.set(0, 4);
        w.keep(0);
        w.set(0, 6);
        while (w.variables() < 16) {
            w.variable(0);
            w.set(w.variables() - 1, 50);
        }
        w.define(15, w.join(SUM, 0, w.of(14)));
        Check.due("35 those added later as they are", w.amountOf(0, 15), 54);
        Check.due("35 nothing is changed", w.amount(15), 56);
        w.keep(1);
        Check.due("34 one that was there", w.load(0), 1);
        Check.due("34 the last of those added later", w.amount(14), 50);
        Check.due("34 the CASE is not longer by that", w.keep(2), 3);
        w.set(14, 70);
        Check.due("34 the first CASE has nothing of it", w.load(0), 0);
        Check.due("34 the second one has", w.load(1), 2);
        Check.due("34 as it was", w.amount(14), 50);
    }

    private static void add(List<Integer> numbers, int... more) {
        for (int x : more) {
            numbers.add(x);
        }
    }

    /** Reckoned without any bound, and cut to 64 bits at the end. */
    private static void promise36WrapsAround() {
        Waterline w = full();
        long got = w.digest();
        List<Integer> numbers = new ArrayList<>();
        add(numbers, 12, 16, 60, w.faults(), w.circles(), w.mostTurns(), w.broken());
        for (int part = 0; part < 60; part++) {
            add(numbers, w.exponent(part, 0), w.exponent(part, 1), w.exponent(part, 2), w.exponent(part, 3),
                    w.worth(part));
        }
        Waterline again = full();
        for (int fault = 0; fault < again.faults(); fault++) {
            add(numbers, again.ofFault(fault, 0), again.ofFault(fault, 1), again.ofFault(fault, 2));
        }
        for (int v = 0; v < 16; v++) {
            add(numbers, again.leansOn(v), again.amount(v), again.isBroken(v) ? 1 : 0, again.movedBy(v));
        }
        for (int k = 0; k < again.circles(); k++) {
            add(numbers, again.circle(k, 0), again.circle(k, 1), again.circle(k, 2), again.circle(k, 3));
        }
        BigInteger d = BigInteger.valueOf(58061);
        for (int x : numbers) {
            d = d.multiply(BigInteger.valueOf(31)).add(BigInteger.valueOf(x));
        }
        Check.due("36 wraps around as a 64-bit integer", got, d.longValue());
        Check.due("36 it is far beyond that", d.bitLength() > 1000, true);
    }
}
