/** Promises 27 to 31: goals, and what moves what. */
public final class GoalsTest {
    private static final int SUM = 2;
    private static final int REST = 3;
    private static final int TIMES = 4;
    private static final int PER = 5;
    private static final int BILLION = 1000000000;

    public static void main(String[] args) {
        promise27Seek();
        promise27Broken();
        promise27Refusals();
        promise28AmountWith();
        promise28Refusals();
        promise29Slope();
        promise29Refusals();
        promise30MovedBy();
        promise31Best();
        promise31Refusals();
        nothingIsChanged();
        trialsLeaveNothing();
        alongTheWayOfTheFirst();
        Check.end("GoalsTest");
    }

    private static void promise27Seek() {
        Waterline w = Models.withVariables(3);
        w.define(1, w.join(TIMES, 0, 0));
        Check.due("27 a square", w.seek(0, 1, 9000, 0, 100000), 3000);
        Check.due("27 the first that is not less", w.seek(0, 1, 9001, 0, 100000), 3001);
        Check.due("27 none is", w.seek(0, 1, BILLION, 0, 5), 5);
        Check.due("27 low is high", w.seek(0, 1, BILLION, 7, 7), 7);
        Check.due("27 as far as can be", w.seek(0, 0, BILLION, -BILLION, BILLION), BILLION);
        Check.due("27 as near as can be", w.seek(0, 0, -BILLION, -BILLION, BILLION), -BILLION);
        Check.due("27 any goal", w.seek(0, 0, Integer.MAX_VALUE, -BILLION, BILLION), BILLION);
        Check.due("27 another goal", w.seek(0, 0, Integer.MIN_VALUE, -BILLION, BILLION), -BILLION);
        Check.due("27 of what does not lean on it", w.seek(2, 1, 1, -10, 10), 10);
        Check.due("27 m is cut towards low", w.seek(0, 0, -3, -10, 10), -3);
        w.unit(0, 0, 0, 0, 1000, 1);
        w.variable(1);
        Check.due("27 low and high in its own UNIT", w.seek(3, 3, 5500, 0, 100), 6);
    }

    private static void promise27Broken() {
        Waterline w = Models.withVariables(2);
        w.define(1, w.root(0));
        Check.due("27 BROKEN is as less", w.seek(0, 1, -5, -1000, 1000), 0);
        w.define(1, w.join(PER, w.number(1000, 0), 0));
        Check.due("27 BROKEN in the midst", w.seek(0, 1, -BILLION, -8, 8), 1);
    }

    private static void promise27Refusals() {
        Waterline w = Models.withVariables(2);
        w.define(1, 0);
        Check.noIndex("27 no such input", () -> w.seek(2, 1, 0, 0, 0));
        Check.noIndex("27 no input -1", () -> w.seek(-1, 1, 0, 0, 0));
        Check.noIndex("27 no such variable", () -> w.seek(0, 2, 0, 0, 0));
        Check.noIndex("27 no variable -1", () -> w.seek(0, -1, 0, 0, 0));
        Check.noArgument("27 low too small", () -> w.seek(0, 1, 0, -BILLION - 1, 0));
        Check.noArgument("27 high too great", () -> w.seek(0, 1, 0, 0, BILLION + 1));
        Check.noArgument("27 low too great", () -> w.seek(0, 1, 0, BILLION + 1, BILLION + 1));
        Check.noArgument("27 high less than low", () -> w.seek(0, 1, 0, 1, 0));
        Check.noState("27 it has a FORMULA", () -> w.seek(1, 0, 0, 0, 0));
        Check.noArgument("27 argument ahead of state", () -> w.seek(1, 0, 0, 1, 0));
        Check.noIndex("27 index ahead of argument", () -> w.seek(1, 2, 0, 1, 0));
    }

    private static void promise28AmountWith() {
        Waterline w = Models.withVariables(4);
        w.define(1, w.join(SUM, 0, 2));
        w.define(3, w.root(0));
        w.set(2, 5);
        Check.due("28 with it", w.amountWith(0, 1, 10), 15);
        Check.due("28 as all others are", w.amountWith(2, 1, 7), 7);
        Check.due("28 itself", w.amountWith(0, 0, -9), -9);
        Check.due("28 another INPUT", w.amountWith(0, 2, -9), 5);
        Check.due("28 BROKEN is 0", w.amountWith(0, 3, -9), 0);
        Check.due("28 the greatest", w.amountWith(0, 0, BILLION), BILLION);
        Check.due("28 the least", w.amountWith(0, 0, -BILLION), -BILLION);
        w.unit(0, 0, 0, 0, 3, 2);
        w.variable(1);
        Check.due("28 in its own UNIT", w.amountWith(4, 4, 5), 7);
    }

    private static void promise28Refusals() {
        Waterline w = Models.withVariables(2);
        w.define(1, 0);
        Check.noIndex("28 no such input", () -> w.amountWith(2, 0, 0));
        Check.noIndex("28 no input -1", () -> w.amountWith(-1, 0, 0));
        Check.noIndex("28 no such variable", () -> w.amountWith(0, 2, 0));
        Check.noIndex("28 no variable -1", () -> w.amountWith(0, -1, 0));
        Check.noArgument("28 too great", () -> w.amountWith(0, 0, BILLION + 1));
        Check.noArgument("28 too small", () -> w.amountWith(0, 0, -BILLION - 1));
        Check.noState("28 it has a FORMULA", () -> w.amountWith(1, 0, 0));
        Check.noArgument("28 argument ahead of state", () -> w.amountWith(1, 0, BILLION + 1));
        Check.noIndex("28 index ahead of argument", () -> w.amountWith(1, 2, BILLION + 1));
    }

    private static void promise29Slope() {
        Waterline w = Models.withVariables(4);
        w.define(1, w.join(TIMES, 0, 0));
        w.set(0, 3000);
        Check.due("29 of a square", w.slope(0, 1, 1000), 6.0);
        Check.due("29 not cut", w.slope(0, 1, 7), 84 / 14.0);
        Check.due("29 itself", w.slope(0, 0, 1), 1.0);
        Check.due("29 what does not lean on it", w.slope(2, 1, 1), 0.0);
        w.define(3, w.join(REST, 2, w.join(TIMES, 0, w.number(333, 0))));
        Check.due("29 downwards", w.slope(0, 3, 10), -7 / 20.0);
        w.set(0, BILLION);
        Check.due("29 what is set is KEPT", w.slope(0, 0, 1000000), 0.5);
        w.set(0, -BILLION);
        Check.due("29 KEPT below", w.slope(0, 0, 1000000), 0.5);
        w.define(1, w.root(0));
        w.set(0, 0);
        Check.due("29 BROKEN is 0", w.slope(0, 1, 1000), 0.5);
        w.define(3, w.join(TIMES, 0, w.number(BILLION, 0)));
        Check.due("29 as far as can be", w.slope(0, 3, 1000000), 1000.0);
    }

    private static void promise29Refusals() {
        Waterline w = Models.withVariables(2);
        w.define(1, 0);
        Check.noIndex("29 no such input", () -> w.slope(2, 0, 1));
        Check.noIndex("29 no input -1", () -> w.slope(-1, 0, 1));
        Check.noIndex("29 no such variable", () -> w.slope(0, 2, 1));
        Check.noIndex("29 no variable -1", () -> w.slope(0, -1, 1));
        for (int step : new int[] {0, -1, 1000001, Integer.MIN_VALUE, Integer.MAX_VALUE}) {
            Check.noArgument("29 step " + step, () -> w.slope(0, 0, step));
        }
        Check.noState("29 it has a FORMULA", () -> w.slope(1, 0, 1));
        Check.noArgument("29 argument ahead of state", () -> w.slope(1, 0, 0));
        Check.noIndex("29 index ahead of argument", () -> w.slope(1, 2, 0));
    }

    private static void promise30MovedBy() {
        Waterline w = Models.withVariables(5);
        w.define(2, w.join(SUM, 0, 1));
        Check.due("30 both", w.movedBy(2), 3);
        Check.due("30 itself, as an INPUT", w.movedBy(3), 8);
        int thousand = w.number(1000, 0);
        w.define(2, w.when(0, 1, thousand));
        w.set(0, -5000);
        Check.due("30 as it is now", w.movedBy(2), 0);
        w.set(0, 5000);
        Check.due("30 with another one set", w.movedBy(2), 2);
        w.set(0, 1000);
        w.set(1, 7);
        Check.due("30 one step up alone", w.movedBy(2), 3);
        w.define(4, w.join(TIMES, 0, 0));
        w.set(0, 0);
        Check.due("30 the same on both sides", w.movedBy(4), 0);
        w.define(4, w.when(w.join(REST, 0, thousand), thousand, w.number(0, 0)));
        Check.due("30 by 1000 and no more", w.movedBy(4), 0);
        w.set(0, 1);
        Check.due("30 by 1000 and no less", w.movedBy(4), 1);
        w.unit(0, 0, 0, 0, 1, 100000);
        w.variable(1);
        Check.due("30 not even itself", w.movedBy(5), 0);
        Check.noIndex("30 no such variable", () -> w.movedBy(6));
        Check.noIndex("30 no variable -1", () -> w.movedBy(-1));
        wholeCircleIsMoved();
        movedByChanges();
    }

    private static void movedByChanges() {
        Waterline w = Models.withVariables(3);
        w.define(0, 1);
        Check.due("30 the first", w.movedBy(0), 2);
        w.define(0, 2);
        Check.due("30 the first, with another FORMULA", w.movedBy(0), 4);
        w.define(0, -1);
        Check.due("30 the first, as an INPUT", w.movedBy(0), 1);
    }

    private static void wholeCircleIsMoved() {
        Waterline w = Models.withVariables(4);
        int half = w.number(500, 0);
        w.define(1, w.join(SUM, 0, w.join(TIMES, half, 2)));
        w.define(2, w.join(TIMES, half, 1));
        w.define(3, 2);
        for (int v = 1; v < 4; v++) {
            Check.due("30 round " + v, w.movedBy(v), 1);
        }
    }

    private static void promise31Best() {
        Waterline w = Models.withVariables(3);
        w.define(1, w.join(REST, w.number(100000, 0), w.join(TIMES, 0, 0)));
        Check.due("31 the greatest", w.best(0, 1, -5000, 1000, 20), 5);
        Check.due("31 of several the first", w.best(0, 1, -2500, 1000, 20), 2);
        Check.due("31 downwards", w.best(0, 1, 5000, -1000, 5), 4);
        Check.due("31 by 0", w.best(0, 1, 5, 0, 20), 0);
        Check.due("31 one", w.best(0, 1, 5, 7, 1), 0);
        Check.due("31 as many as can be", w.best(0, 0, -1000000, 1000000, 20), 19);
        Check.due("31 from the greatest", w.best(0, 0, 1000000, -1000000, 2), 0);
        Check.due("31 below 0 is an amount too", w.best(0, 0, -1000000, -1000000, 20), 0);
        w.define(2, w.root(0));
        Check.due("31 BROKEN ones left out", w.best(0, 2, -2, 1, 3), 2);
        Check.due("31 without any", w.best(0, 2, -2, 0, 3), -1);
        w.define(2, w.join(REST, w.number(-1000, 0), w.root(0)));
        Check.due("31 BROKEN is not as 0", w.best(0, 2, -3000, 4000, 3), 1);
        w.define(2, w.number(-BILLION, 0));
        Check.due("31 the least is something", w.best(0, 2, 0, 1, 3), 0);
    }

    private static void promise31Refusals() {
        Waterline w = Models.withVariables(2);
        w.define(1, 0);
        Check.noIndex("31 no such input", () -> w.best(2, 0, 0, 0, 1));
        Check.noIndex("31 no input -1", () -> w.best(-1, 0, 0, 0, 1));
        Check.noIndex("31 no such variable", () -> w.best(0, 2, 0, 0, 1));
        Check.noIndex("31 no variable -1", () -> w.best(0, -1, 0, 0, 1));
        for (int x : new int[] {1000001, -1000001, Integer.MIN_VALUE, Integer.MAX_VALUE}) {
            Check.noArgument("31 from " + x, () -> w.best(0, 0, x, 0, 1));
            Check.noArgument("31 by " + x, () -> w.best(0, 0, 0, x, 1));
        }
        for (int many : new int[] {0, -1, 21, Integer.MIN_VALUE, Integer.MAX_VALUE}) {
            Check.noArgument("31 many " + many, () -> w.best(0, 0, 0, 0, many));
        }
        Check.noState("31 it has a FORMULA", () -> w.best(1, 0, 0, 0, 1));
        Check.noArgument("31 argument ahead of state", () -> w.best(1, 0, 0, 0, 0));
        Check.noIndex("31 index ahead of argument", () -> w.best(1, 2, 0, 0, 0));
    }

    /** Each asks just after another INPUT has been tried. */
    private static void trialsLeaveNothing() {
        Waterline w = Models.withVariables(3);
        w.define(2, w.join(SUM, 0, w.join(TIMES, 1, 1)));
        w.set(1, 2000);
        w.amountWith(1, 2, 50000);
        Check.due("27 after another trial", w.seek(0, 2, 4010, 0, 100), 10);
        w.amountWith(1, 2, 50000);
        Check.due("28 after another trial", w.amountWith(0, 2, 1), 4001);
        w.amountWith(0, 2, 9000);
        Check.due("29 after another trial", w.slope(1, 2, 1000), 4.0);
        w.define(2, w.join(TIMES, 0, 1));
        w.amountWith(1, 2, -50000);
        Check.due("29 with another FORMULA", w.slope(0, 2, 1000), 2.0);
        w.amountWith(1, 2, -50000);
        Check.due("31 after another trial", w.best(0, 2, 0, 1000, 3), 2);
    }

    /** The variable 0 stands between, or at the end. */
    private static void alongTheWayOfTheFirst() {
        Waterline w = Models.withVariables(3);
        w.define(0, 2);
        w.define(1, 0);
        Check.due("28 by way of the first", w.amountWith(2, 1, 5), 5);
        Check.due("28 up to the first", w.amountWith(2, 0, 6), 6);
        Check.due("30 by way of the first", w.movedBy(1), 4);
    }

    private static void nothingIsChanged() {
        Waterline w = Models.withVariables(3);
        w.define(1, w.join(SUM, 0, w.join(TIMES, w.number(500, 0), 1)));
        w.define(2, w.join(PER, 1, 0));
        w.set(0, 8000);
        long before = w.digest();
        w.seek(0, 1, 100, -50, 100000);
        Check.due("27 nothing is changed", w.digest(), before);
        w.amountWith(0, 2, 0);
        Check.due("28 nothing is changed", w.digest(), before);
        Check.due("28 the turns neither", w.mostTurns(), 15);
        w.slope(0, 1, 1000000);
        Check.due("29 nothing is changed", w.digest(), before);
        w.movedBy(2);
        Check.due("30 nothing is changed", w.digest(), before);
        w.best(0, 2, -5, 1, 20);
        Check.due("31 nothing is changed", w.digest(), before);
        Check.due("31 what is set neither", w.amount(0), 8000);
    }
}
