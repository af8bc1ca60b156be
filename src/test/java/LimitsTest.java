/** What stands under "Terms", at its limits: amounts, DIMENSIONS, FAULTS, ORDER, TURNS. */
public final class LimitsTest {
    private static final int SUM = 2;
    private static final int REST = 3;
    private static final int TIMES = 4;
    private static final int PER = 5;
    private static final int LEAST = 6;
    private static final int MOST = 7;
    private static final int BILLION = 1000000000;
    private static final int MILLION = 1000000;

    public static void main(String[] args) {
        terms1Without();
        terms1In();
        terms3EachDimension();
        terms3Root();
        terms3FaultsOfSeveral();
        terms3NoneOfItsOwn();
        terms4Chain();
        terms4Ring();
        terms4SmallestFirst();
        terms5Sums();
        terms5Times();
        terms5Per();
        terms5Root();
        terms5When();
        terms5BrokenByOrder();
        terms5FaultIsBroken();
        terms5Slack();
        terms5Damping();
        terms5FortiethTurn();
        terms5BrokenInATurn();
        terms5BetweenTheLimits();
        terms5ItsOwnFault();
        terms5BeginsWithNothing();
        Check.end("LimitsTest");
    }

    /** What n of a UNIT with this FACTOR is without it: told by a NUMBER, and by what is set. */
    private static int without(int n, int p, int q) {
        Waterline w = new Waterline();
        w.unit(0, 0, 0, 0, p, q);
        w.variable(1);
        int set = w.set(0, n);
        Check.due("terms 1 as it is set", w.amount(0), set);
        Check.due("terms 1 as a NUMBER", w.worth(w.number(n, 1)), set);
        return set;
    }

    private static void terms1Without() {
        Check.due("terms 1 just below the limit", without(9999, 100000, 1), 999900000);
        Check.due("terms 1 the limit", without(10000, 100000, 1), BILLION);
        Check.due("terms 1 beyond it", without(10001, 100000, 1), BILLION);
        Check.due("terms 1 far beyond it", without(BILLION, 100000, 1), BILLION);
        Check.due("terms 1 just above the lower one", without(-9999, 100000, 1), -999900000);
        Check.due("terms 1 the lower limit", without(-10000, 100000, 1), -BILLION);
        Check.due("terms 1 below it", without(-10001, 100000, 1), -BILLION);
        Check.due("terms 1 far below it", without(-BILLION, 100000, 1), -BILLION);
        Check.due("terms 1 KEPT behind the division", without(BILLION, 100000, 100000), BILLION);
        Check.due("terms 1 and not ahead of it", without(BILLION, 99999, 100000), 999990000);
        Check.due("terms 1 by q", without(BILLION, 1, 100000), 10000);
        Check.due("terms 1 nearly 1", without(99999, 1, 100000), 0);
        Check.due("terms 1 cut towards 0", without(-99999, 1, 100000), 0);
        Check.due("terms 1 of 0", without(0, 100000, 1), 0);
    }

    /** What n without UNIT is in a UNIT with this FACTOR. */
    private static int in(int n, int p, int q) {
        Waterline w = new Waterline();
        w.unit(0, 0, 0, 0, p, q);
        w.variable(0);
        w.set(0, n);
        return w.amountIn(0, 1);
    }

    private static void terms1In() {
        Check.due("terms 1 in, just below the limit", in(9999, 1, 100000), 999900000);
        Check.due("terms 1 in, the limit", in(10000, 1, 100000), BILLION);
        Check.due("terms 1 in, beyond it", in(10001, 1, 100000), BILLION);
        Check.due("terms 1 in, far beyond it", in(BILLION, 1, 100000), BILLION);
        Check.due("terms 1 in, the lower limit", in(-10000, 1, 100000), -BILLION);
        Check.due("terms 1 in, below it", in(-10001, 1, 100000), -BILLION);
        Check.due("terms 1 in, far below it", in(-BILLION, 1, 100000), -BILLION);
        Check.due("terms 1 in, KEPT behind the division", in(BILLION, 100000, 100000), BILLION);
        Check.due("terms 1 in, and not ahead of it", in(BILLION, 100000, 99999), 999990000);
        Check.due("terms 1 in, by p", in(BILLION, 100000, 1), 10000);
        Check.due("terms 1 in, cut", in(99999, 100000, 1), 0);
        Check.due("terms 1 in, cut towards 0", in(-99999, 100000, 1), 0);
    }

    /** A unit with one EXPONENT alone. */
    private static int unitOf(Waterline w, int dimension, int exponent) {
        int[] e = new int[4];
        e[dimension] = exponent;
        return w.unit(e[0], e[1], e[2], e[3], 1, 1);
    }

    private static void terms3EachDimension() {
        for (int d = 0; d < 4; d++) {
            Waterline w = new Waterline();
            int two = w.number(1000, unitOf(w, d, 2));
            int one = w.number(1000, unitOf(w, d, 1));
            int inverse = w.number(1000, unitOf(w, d, -1));
            int last = w.join(TIMES, w.join(TIMES, two, two), one);
            int ten = w.join(TIMES, last, last);
            int twenty = w.join(TIMES, ten, ten);
            Check.due("terms 3 20 of " + d, w.exponent(twenty, d), 20);
            int opposite = w.join(PER, w.join(PER, one, one), twenty);
            Check.due("terms 3 -20 of " + d, w.exponent(opposite, d), -20);
            Check.due("terms 3 TIMES, 21 of " + d, w.exponent(w.join(TIMES, twenty, one), d), 99);
            Check.due("terms 3 PER, 21 of " + d, w.exponent(w.join(PER, twenty, inverse), d), 99);
            Check.due("terms 3 TIMES, -21 of " + d, w.exponent(w.join(TIMES, opposite, inverse), d), 99);
            Check.due("terms 3 PER, -21 of " + d, w.exponent(w.join(PER, opposite, one), d), 99);
            Check.due("terms 3 40 of " + d, w.exponent(w.join(TIMES, twenty, twenty), (d + 1) % 4), 99);
            Check.due("terms 3 others than those of b, " + d, w.exponent(w.join(SUM, one, two), (d + 1) % 4), 99);
            Check.due("terms 3 others than those of c, " + d, w.exponent(w.when(one, one, two), (d + 1) % 4), 99);
            Check.due("terms 3 the same at the edge, " + d, w.exponent(w.join(MOST, twenty, twenty), d), 20);
        }
    }

    private static void terms3Root() {
        for (int d = 0; d < 4; d++) {
            Waterline w = new Waterline();
            int two = w.number(1000, unitOf(w, d, 2));
            int last = two;
            for (int k = 2; k <= 10; k++) {
                last = w.join(TIMES, last, two);
            }
            Check.due("terms 3 half of 20, " + d, w.exponent(w.root(last), d), 10);
            Check.due("terms 3 half of 0, " + d, w.exponent(w.root(last), (d + 1) % 4), 0);
            Check.due("terms 3 half of -2, " + d, w.exponent(w.root(w.number(1, unitOf(w, d, -2))), d), -1);
            for (int odd : new int[] {1, 3, -1, -3}) {
                int part = w.root(w.number(1, unitOf(w, d, odd)));
                Check.due("terms 3 half of " + odd + ", " + d, w.exponent(part, d), 99);
            }
        }
    }

    private static void terms3FaultsOfSeveral() {
        Waterline w = Models.withVariables(16);
        int length = w.number(1, w.unit(1, 0, 0, 0, 1, 1));
        for (int v = 0; v < 16; v += 5) {
            w.define(v, length);
        }
        Check.due("terms 3 how many", w.faults(), 4);
        for (int v = 0; v < 16; v++) {
            Check.due("terms 5 BROKEN with its own FAULT alone, " + v, w.isBroken(v), v % 5 == 0);
        }
        Check.due("terms 5 how many are BROKEN", w.broken(), 4);
        for (int fault = 0; fault < 4; fault++) {
            Check.due("terms 3 by numbers " + fault, w.ofFault(fault, 0), fault * 5);
        }
    }

    /** What has none only because one that is named in it has none is no FAULT; nor is 3, if it has none. */
    private static void terms3NoneOfItsOwn() {
        Waterline w = Models.withVariables(1);
        int plain = w.number(1000, 0);
        int length = w.number(1000, w.unit(1, 0, 0, 0, 1, 1));
        int wrong = w.join(SUM, plain, length);
        int[] above = {w.join(REST, wrong, plain), w.join(LEAST, plain, wrong), w.join(TIMES, wrong, length),
            w.join(PER, length, wrong), w.root(wrong), w.when(wrong, plain, plain), w.when(plain, wrong, plain),
            w.when(plain, plain, wrong)};
        for (int part : above) {
            w.define(0, part);
            Check.due("terms 3 one alone, part " + part, w.faults(), 1);
            Check.due("terms 3 the PART, part " + part, w.ofFault(0, 1), wrong);
            Check.due("terms 3 its code, part " + part, w.ofFault(0, 2), 1);
        }
    }

    private static void terms4Chain() {
        Waterline w = Models.withVariables(16);
        for (int v = 0; v < 15; v++) {
            w.define(v, v + 1);
        }
        w.set(15, 77);
        Check.due("terms 4 each alone", w.circles(), 16);
        for (int k = 0; k < 16; k++) {
            Check.due("terms 4 the last comes first, " + k, w.circle(k, 0), 1 << 15 - k);
            Check.due("terms 4 none is ROUND, " + k, w.circle(k, 1), 0);
        }
        Check.due("terms 5 along all of them", w.amount(0), 77);
        Check.due("promise 30 along all of them", w.movedBy(0), 1 << 15);
    }

    private static void terms4Ring() {
        Waterline w = Models.withVariables(16);
        int one = w.number(1, 0);
        for (int v = 0; v < 16; v++) {
            w.define(v, w.join(SUM, (v + 15) % 16, one));
        }
        Check.due("terms 4 one CIRCLE", w.circles(), 1);
        Check.due("terms 4 of all", w.circle(0, 0), 65535);
        Check.due("terms 4 ROUND", w.circle(0, 1), 1);
        Check.due("terms 5 40 TURNS", w.circle(0, 2), 40);
        Check.due("terms 5 OPEN", w.circle(0, 3), 1);
        Check.due("terms 5 16 steps a TURN", w.amount(15), 640);
        w.define(15, -1);
        Check.due("terms 4 one left out: each alone", w.circles(), 16);
        Check.due("terms 4 in its order", w.circle(0, 0), 1 << 15);
        w.define(15, w.join(SUM, 14, one));
        w.define(7, 7);
        Check.due("terms 4 one that leans on itself alone", w.circle(0, 0), 1 << 7);
        Check.due("terms 4 is ROUND", w.circle(0, 1), 1);
    }

    /** A CIRCLE comes by its smallest variable, though others in it are greater than one that waits. */
    private static void terms4SmallestFirst() {
        Waterline w = Models.withVariables(6);
        w.define(1, 5);
        w.define(5, 1);
        w.define(0, 4);
        int[] due = {34, 4, 8, 16, 1};
        Check.due("terms 4 how many", w.circles(), 5);
        for (int k = 0; k < 5; k++) {
            Check.due("terms 4 as they come, " + k, w.circle(k, 0), due[k]);
        }
        w.define(5, w.join(SUM, 1, 4));
        int[] later = {4, 8, 16, 1, 34};
        for (int k = 0; k < 5; k++) {
            Check.due("terms 4 all its variables have to wait, " + k, w.circle(k, 0), later[k]);
        }
    }

    private static int joined(int code, int a, int b) {
        Waterline w = new Waterline();
        return w.worth(w.join(code, w.number(a, 0), w.number(b, 0)));
    }

    private static void terms5Sums() {
        Check.due("terms 5 SUM, the limit", joined(SUM, BILLION - 1, 1), BILLION);
        Check.due("terms 5 SUM, beyond it", joined(SUM, BILLION - 1, 2), BILLION);
        Check.due("terms 5 SUM, as far as can be", joined(SUM, BILLION, BILLION), BILLION);
        Check.due("terms 5 SUM, the lower limit", joined(SUM, 1 - BILLION, -1), -BILLION);
        Check.due("terms 5 SUM, below it", joined(SUM, 1 - BILLION, -2), -BILLION);
        Check.due("terms 5 SUM, from limit to limit", joined(SUM, BILLION, -BILLION), 0);
        Check.due("terms 5 REST, the limit", joined(REST, BILLION - 1, -1), BILLION);
        Check.due("terms 5 REST, beyond it", joined(REST, BILLION, -1), BILLION);
        Check.due("terms 5 REST, as far as can be", joined(REST, BILLION, -BILLION), BILLION);
        Check.due("terms 5 REST, below the lower one", joined(REST, -BILLION, 1), -BILLION);
        Check.due("terms 5 LEAST at the limits", joined(LEAST, BILLION, -BILLION), -BILLION);
        Check.due("terms 5 MOST at the limits", joined(MOST, -BILLION, BILLION), BILLION);
        Check.due("terms 5 LEAST of the same", joined(LEAST, 5, 5), 5);
        Check.due("terms 5 MOST of the same", joined(MOST, -5, -5), -5);
    }

    private static void terms5Times() {
        Check.due("terms 5 TIMES, KEPT behind the division", joined(TIMES, MILLION, MILLION), BILLION);
        Check.due("terms 5 TIMES, just below", joined(TIMES, MILLION, MILLION - 1), 999999000);
        Check.due("terms 5 TIMES, beyond it", joined(TIMES, MILLION, MILLION + 1), BILLION);
        Check.due("terms 5 TIMES, as far as can be", joined(TIMES, BILLION, BILLION), BILLION);
        Check.due("terms 5 TIMES, of two below", joined(TIMES, -BILLION, -BILLION), BILLION);
        Check.due("terms 5 TIMES, as low as can be", joined(TIMES, -BILLION, BILLION), -BILLION);
        Check.due("terms 5 TIMES, by 1", joined(TIMES, BILLION, 1000), BILLION);
        Check.due("terms 5 TIMES, cut", joined(TIMES, 999, 1), 0);
        Check.due("terms 5 TIMES, cut towards 0", joined(TIMES, -999, 1), 0);
        Check.due("terms 5 TIMES, no more cut", joined(TIMES, -1000, 1), -1);
        Check.due("terms 5 TIMES, by 0", joined(TIMES, BILLION, 0), 0);
    }

    private static void terms5Per() {
        Check.due("terms 5 PER, by 1", joined(PER, BILLION, 1000), BILLION);
        Check.due("terms 5 PER, KEPT behind the division", joined(PER, BILLION, 2000), BILLION / 2);
        Check.due("terms 5 PER, beyond it", joined(PER, BILLION, 999), BILLION);
        Check.due("terms 5 PER, as far as can be", joined(PER, BILLION, 1), BILLION);
        Check.due("terms 5 PER, as low as can be", joined(PER, BILLION, -1), -BILLION);
        Check.due("terms 5 PER, of two below", joined(PER, -BILLION, -1), BILLION);
        Check.due("terms 5 PER, limit by limit", joined(PER, -BILLION, BILLION), -1000);
        Check.due("terms 5 PER, cut", joined(PER, 999999, BILLION), 0);
        Check.due("terms 5 PER, cut towards 0", joined(PER, -999999, BILLION), 0);
        Check.due("terms 5 PER, no more cut", joined(PER, -MILLION, BILLION), -1);
        Check.due("terms 5 PER, 0 by something", joined(PER, 0, -1), 0);
        Waterline w = Models.withVariables(2);
        w.define(1, w.join(PER, 0, w.number(0, 0)));
        Check.due("terms 5 PER, 0 by 0 is BROKEN", w.isBroken(1), true);
        w.set(0, BILLION);
        Check.due("terms 5 PER, the limit by 0 is BROKEN", w.isBroken(1), true);
        w.define(1, w.join(PER, 0, w.number(1, 0)));
        Check.due("terms 5 PER, by 1 it is not", w.isBroken(1), false);
        w.define(1, w.join(PER, 0, w.number(-1, 0)));
        Check.due("terms 5 PER, by -1 it is not", w.isBroken(1), false);
    }

    private static void terms5Root() {
        Waterline w;
        for (long n = 0; n <= MILLION; n += 37037) {
            for (long near = -1; near <= 1; near++) {
                long a = n * n / 1000 + near;
                if (a >= 0 && a <= BILLION) {
                    w = withRootOf((int) a);
                    long root = w.amount(1);
                    Check.due("terms 5 ROOT, not above, of " + a, root * root <= a * 1000, true);
                    Check.due("terms 5 ROOT, the greatest, of " + a, (root + 1) * (root + 1) > a * 1000, true);
                }
            }
        }
        w = withRootOf(0);
        Check.due("terms 5 ROOT of 0", w.amount(1), 0);
        Check.due("terms 5 ROOT of 0 is not BROKEN", w.isBroken(1), false);
        w = withRootOf(-1);
        Check.due("terms 5 ROOT of what is less than 0", w.isBroken(1), true);
        w = withRootOf(-BILLION);
        Check.due("terms 5 ROOT of the least", w.isBroken(1), true);
    }

    /** A new one each time, as one is used for 512 calls. */
    private static Waterline withRootOf(int a) {
        Waterline w = Models.withVariables(2);
        w.define(1, w.root(0));
        w.set(0, a);
        return w;
    }

    private static void terms5When() {
        Waterline w = Models.withVariables(2);
        w.define(1, w.when(0, w.number(7, 0), w.number(9, 0)));
        int[] above = {1, BILLION};
        for (int a : above) {
            w.set(0, a);
            Check.due("terms 5 IF, b with " + a, w.amount(1), 7);
        }
        int[] others = {0, -1, -BILLION};
        for (int a : others) {
            w.set(0, a);
            Check.due("terms 5 IF, c with " + a, w.amount(1), 9);
        }
    }

    /** 0: an INPUT with 0; 1: BROKEN; what names it is BROKEN, unless an IF leaves it out. */
    private static void terms5BrokenByOrder() {
        Waterline w = Models.withVariables(3);
        int one = w.number(1000, 0);
        w.define(1, w.join(PER, one, 0));
        for (int code = SUM; code <= MOST; code++) {
            w.define(2, w.join(code, 1, one));
            Check.due("terms 5 a is BROKEN, code " + code, w.isBroken(2), true);
            w.define(2, w.join(code, one, 1));
            Check.due("terms 5 b is BROKEN, code " + code, w.isBroken(2), true);
        }
        w.define(2, w.root(1));
        Check.due("terms 5 ROOT of a BROKEN one", w.isBroken(2), true);
        w.define(2, w.when(1, one, one));
        Check.due("terms 5 IF with a BROKEN", w.isBroken(2), true);
        w.define(2, w.when(one, 1, one));
        Check.due("terms 5 IF with b BROKEN", w.isBroken(2), true);
        w.define(2, w.when(one, one, 1));
        Check.due("terms 5 IF that leaves c out", w.isBroken(2), false);
        w.define(2, w.when(0, 1, one));
        Check.due("terms 5 IF that leaves b out", w.isBroken(2), false);
        w.define(2, w.when(0, one, 1));
        Check.due("terms 5 IF with c BROKEN", w.isBroken(2), true);
        w.define(2, w.join(SUM, one, w.when(one, one, w.root(w.join(PER, 1, 1)))));
        Check.due("terms 5 left out with all that is in it", w.amount(2), 2000);
    }

    private static void terms5FaultIsBroken() {
        Waterline w = Models.withVariables(2);
        int plain = w.number(1000, 0);
        int length = w.number(1000, w.unit(1, 0, 0, 0, 1, 1));
        int wrong = w.join(SUM, plain, length);
        w.define(0, w.when(plain, plain, wrong));
        Check.due("terms 5 BROKEN also by what is left out, if it is a FAULT", w.isBroken(0), true);
        w.define(1, w.when(plain, plain, 0));
        Check.due("terms 5 but not what leaves out the BROKEN one", w.isBroken(1), false);
        Check.due("terms 5 which counts", w.amount(1), 1000);
    }

    /** The variable 1 is what is set for the variable 0, and itself besides. */
    private static Waterline adding(int n) {
        Waterline w = Models.withVariables(2);
        w.define(1, w.join(SUM, 0, 1));
        w.set(0, n);
        return w;
    }

    private static void terms5Slack() {
        for (int sign = -1; sign <= 1; sign += 2) {
            Waterline w = adding(sign);
            Check.due("terms 5 other by 1, with the SLACK 0", w.circle(1, 3), 1);
            w.setTurns(1, 100);
            Check.due("terms 5 by 1, with the SLACK 1", w.circle(1, 2), 1);
            Check.due("terms 5 and what it is then", w.amount(1), sign);
            w.setTurns(10000, 100);
            w.set(0, sign * 10000);
            Check.due("terms 5 by 10000, with the SLACK 10000", w.circle(1, 2), 1);
            Check.due("terms 5 not OPEN", w.circle(1, 3), 0);
            w.set(0, sign * 10001);
            Check.due("terms 5 by 10001, with the SLACK 10000", w.circle(1, 2), 40);
            Check.due("terms 5 OPEN", w.circle(1, 3), 1);
            Check.due("terms 5 as far as it came", w.amount(1), sign * 400040);
            w.set(0, 0);
            Check.due("terms 5 by nothing, with any SLACK", w.circle(1, 2), 1);
        }
        slackOfTheSlowest();
    }

    /** One stands still in each TURN, the other one in none. */
    private static void slackOfTheSlowest() {
        Waterline w = Models.withVariables(2);
        w.define(0, w.join(SUM, 0, w.join(TIMES, 1, w.number(0, 0))));
        w.define(1, w.join(SUM, w.join(SUM, 0, 1), w.number(3, 0)));
        Check.due("terms 5 each one has to stand still", w.circle(0, 2), 40);
        Check.due("terms 5 one that does", w.amount(0), 0);
        w.setTurns(3, 100);
        Check.due("terms 5 by no more than the SLACK", w.circle(0, 2), 1);
        w.define(0, w.join(SUM, w.join(SUM, 0, w.number(3, 0)), w.join(TIMES, 1, w.number(0, 0))));
        w.define(1, w.join(SUM, 1, w.join(TIMES, 0, w.number(0, 0))));
        Check.due("terms 5 the first one alone moves", w.circle(0, 2), 1);
        w.setTurns(2, 100);
        Check.due("terms 5 the first one alone moves too far", w.circle(0, 2), 40);
    }

    /** The variable 1 nears what is set for the variable 0. */
    private static void terms5Damping() {
        Waterline w = Models.withVariables(2);
        w.define(1, w.join(SUM, 0, w.join(TIMES, 1, w.number(0, 0))));
        Check.due("terms 5 DAMPING 100 at first", set(w, 100, 2), 100);
        w.setTurns(0, 1);
        Check.due("terms 5 DAMPING 1: 99 is cut to nothing", set(w, 99, 1), 0);
        Check.due("terms 5 DAMPING 1: 100 is 1", set(w, 100, 2), 1);
        Check.due("terms 5 DAMPING 1: -99 is cut to nothing", set(w, -99, 1), 0);
        Check.due("terms 5 DAMPING 1: -100 is -1", set(w, -100, 2), -1);
        w.setTurns(0, 99);
        Check.due("terms 5 DAMPING 99: 1 is cut to nothing", set(w, 1, 1), 0);
        Check.due("terms 5 DAMPING 99: 2 is 1, and then nothing", set(w, 2, 2), 1);
        w.setTurns(0, 50);
        Check.due("terms 5 DAMPING 50: 3, 1, 1", set(w, 3, 3), 2);
        w.setTurns(0, 99);
        Check.due("terms 5 DAMPING 99 of the limit", set(w, BILLION, 6), BILLION - 1);
        w.setTurns(10000, 99);
        Check.due("terms 5 the SLACK is of what is added: 10000", set(w, 10102, 1), 10000);
        Check.due("terms 5 the SLACK is of what is added: 10001", set(w, 10103, 2), 10101);
    }

    private static int set(Waterline w, int n, int turns) {
        w.set(0, n);
        Check.due("terms 5 TURNS with " + n, w.circle(1, 2), turns);
        return w.amount(1);
    }

    /** The variable 1 counts up to what is set for the variable 0. */
    private static void terms5FortiethTurn() {
        Waterline w = Models.withVariables(2);
        w.define(1, w.join(LEAST, w.join(SUM, 1, w.number(1, 0)), 0));
        int[] bounds = {0, 1, 38, 39, 40, 41};
        int[] turns = {1, 2, 39, 40, 40, 40};
        int[] open = {0, 0, 0, 0, 1, 1};
        int[] amounts = {0, 1, 38, 39, 40, 40};
        for (int k = 0; k < bounds.length; k++) {
            w.set(0, bounds[k]);
            Check.due("terms 5 TURNS up to " + bounds[k], w.circle(1, 2), turns[k]);
            Check.due("terms 5 OPEN up to " + bounds[k], w.circle(1, 3), open[k]);
            Check.due("terms 5 as it is, up to " + bounds[k], w.amount(1), amounts[k]);
        }
    }

    /** The variable 0 counts the TURNS; the variable 1 is 1 by what is left to the bound. */
    private static void terms5BrokenInATurn() {
        Waterline w = Models.withVariables(4);
        w.define(0, w.join(SUM, w.join(SUM, 0, w.number(1, 0)), w.join(TIMES, 1, w.number(0, 0))));
        w.define(1, w.join(PER, w.number(1000, 0), w.join(REST, 2, 0)));
        w.define(3, 0);
        for (int bound : new int[] {1, 2, 39, 40}) {
            w.set(2, bound);
            Check.due("terms 5 BROKEN in the TURN " + bound, w.circle(1, 2), bound);
            Check.due("terms 5 not OPEN, " + bound, w.circle(1, 3), 0);
            Check.due("terms 5 both, and what leans on it, " + bound, w.broken(), 3);
            Check.due("terms 5 the amount is 0, " + bound, w.amount(0), 0);
            Check.due("promise 21 up to and with it, " + bound, w.mostTurns(), bound);
        }
        w.set(2, 41);
        Check.due("terms 5 a TURN that is not made", w.broken(), 0);
        Check.due("terms 5 OPEN", w.circle(1, 3), 1);
        Check.due("terms 5 as it is then", w.amount(1), BILLION / 1000);
        w.set(2, 0);
        Check.due("terms 5 not BROKEN with 1 by -1", w.broken(), 0);
        outerBroken();
    }

    private static void outerBroken() {
        Waterline w = Models.withVariables(3);
        w.define(0, w.root(2));
        w.define(1, w.join(SUM, 1, 0));
        w.set(2, -1);
        Check.due("terms 5 OF one that is BROKEN outside", w.circle(2, 2), 1);
        Check.due("terms 5 it is BROKEN too", w.broken(), 2);
        Check.due("terms 5 ROUND all the same", w.circle(2, 1), 1);
    }

    /** From one limit to the other one, in each TURN. */
    private static void terms5BetweenTheLimits() {
        Waterline w = Models.withVariables(1);
        w.define(0, w.when(0, w.number(-BILLION, 0), w.number(BILLION, 0)));
        for (int damping : new int[] {100, 99, 50, 1}) {
            w.setTurns(10000, damping);
            long x = 0;
            for (int turn = 0; turn < 40; turn++) {
                x += ((x > 0 ? -BILLION : BILLION) - x) * damping / 100;
            }
            Check.due("terms 5 there and back, DAMPING " + damping, w.amount(0), (int) x);
            Check.due("terms 5 it is OPEN, DAMPING " + damping, w.circle(0, 3), 1);
            Check.due("terms 5 not BROKEN, DAMPING " + damping, w.isBroken(0), false);
        }
    }

    private static void terms5ItsOwnFault() {
        Waterline w = Models.withVariables(1);
        w.variable(w.unit(1, 0, 0, 0, 1, 1));
        w.define(0, w.join(SUM, 0, w.of(1)));
        Check.due("terms 5 ROUND with a FAULT", w.circle(1, 1), 1);
        Check.due("promise 20 no TURNS with a FAULT", w.circle(1, 2), 0);
        Check.due("promise 20 not OPEN with a FAULT", w.circle(1, 3), 0);
        Check.due("promise 21 none either", w.mostTurns(), 0);
        Check.due("terms 5 BROKEN", w.isBroken(0), true);
    }

    /** What is set of a variable, and what it was before, do not count in a CIRCLE. */
    private static void terms5BeginsWithNothing() {
        Waterline w = Models.withVariables(2);
        w.set(0, 5000);
        w.set(1, 700);
        w.define(0, 0);
        Check.due("terms 5 begins with 0", w.amount(0), 0);
        w.define(0, w.join(SUM, w.join(TIMES, 0, w.number(500, 0)), 1));
        w.amount(0);
        w.set(1, 0);
        Check.due("terms 5 begins with 0 each time", w.amount(0), 0);
    }
}
