/** Promises 22 to 26: amounts. */
public final class AmountsTest {
    private static final int SUM = 2;
    private static final int TIMES = 4;
    private static final int PER = 5;
    private static final int LEAST = 6;
    private static final int MOST = 7;
    private static final int BILLION = 1000000000;

    public static void main(String[] args) {
        promise22Amount();
        promise22SharedParts();
        promise22LazyIf();
        promise22AheadOfItsTurn();
        promise23AmountIn();
        promise23Refusals();
        promise24IsBroken();
        promise25Worth();
        promise25WorthOfFaulty();
        promise26Broken();
        Check.end("AmountsTest");
    }

    private static void promise22Amount() {
        Waterline w = Models.withVariables(2);
        w.set(0, 1234);
        Check.due("22 of an INPUT", w.amount(0), 1234);
        w.define(1, w.join(TIMES, 0, 0));
        Check.due("22 of a FORMULA", w.amount(1), 1522);
        w.set(0, -2000);
        Check.due("22 it follows", w.amount(1), 4000);
        w.define(1, w.root(0));
        Check.due("22 BROKEN is 0", w.amount(1), 0);
        Check.noIndex("22 no such variable", () -> w.amount(2));
        Check.noIndex("22 no variable -1", () -> w.amount(-1));
    }

    /** 2 to the 50th ways lead to the first part. */
    private static void promise22SharedParts() {
        Waterline w = Models.withVariables(2);
        int last = 0;
        for (int k = 0; k < 50; k++) {
            last = w.join(k % 2 == 0 ? LEAST : MOST, last, last);
        }
        w.define(1, last);
        w.set(0, 77);
        Check.due("22 parts named again and again", w.amount(1), 77);
    }

    private static void promise22LazyIf() {
        Waterline w = Models.withVariables(3);
        int one = w.number(1000, 0);
        int byFirst = w.join(PER, one, 0);
        w.define(1, w.when(0, byFirst, one));
        Check.due("22 what an IF leaves out is not reckoned", w.isBroken(1), false);
        Check.due("22 but c", w.amount(1), 1000);
        w.set(0, 4000);
        Check.due("22 or b", w.amount(1), 250);
        w.define(2, w.when(byFirst, one, one));
        w.set(0, 0);
        Check.due("22 a is reckoned always", w.isBroken(2), true);
        w.define(2, w.join(SUM, 0, w.when(0, one, byFirst)));
        Check.due("22 BROKEN by c", w.isBroken(2), true);
    }

    private static void promise22AheadOfItsTurn() {
        Waterline w = Models.withVariables(4);
        w.define(0, 1);
        w.define(1, 2);
        w.define(2, w.join(SUM, 3, 3));
        w.set(3, 21);
        Check.due("22 what it leans on comes first", w.amount(0), 42);
    }

    private static void promise23AmountIn() {
        Waterline w = new Waterline();
        w.unit(1, 0, 0, 0, 7, 3);
        w.unit(1, 0, 0, 0, 1, 100000);
        w.unit(1, 0, 0, 0, 100000, 1);
        w.variable(1);
        w.set(0, 100);
        Check.due("23 without UNIT", w.amount(0), 233);
        Check.due("23 in its own UNIT, from there", w.amountIn(0, 1), 99);
        Check.due("23 in a small one", w.amountIn(0, 2), 23300000);
        Check.due("23 in a great one", w.amountIn(0, 3), 0);
        w.set(0, -100);
        Check.due("23 cut towards 0", w.amountIn(0, 1), -99);
        w.set(0, BILLION);
        Check.due("23 KEPT", w.amountIn(0, 2), BILLION);
        w.set(0, -BILLION);
        Check.due("23 KEPT below", w.amountIn(0, 2), -BILLION);
        w.define(0, w.join(SUM, w.number(1, 0), w.number(1, 1)));
        Check.due("23 BROKEN is 0", w.amountIn(0, 2), 0);
    }

    private static void promise23Refusals() {
        Waterline w = new Waterline();
        w.unit(1, 0, 0, -1, 1, 1);
        w.unit(1, 0, 0, 0, 1, 1);
        w.unit(1, 0, 0, -1, 2, 1);
        w.variable(1);
        w.set(0, 8);
        Check.noIndex("23 no such variable", () -> w.amountIn(1, 1));
        Check.noIndex("23 no variable -1", () -> w.amountIn(-1, 1));
        Check.noIndex("23 no such unit", () -> w.amountIn(0, 4));
        Check.noIndex("23 no unit -1", () -> w.amountIn(0, -1));
        Check.noArgument("23 other EXPONENTS", () -> w.amountIn(0, 0));
        Check.noArgument("23 one other EXPONENT", () -> w.amountIn(0, 2));
        Check.due("23 the same EXPONENTS", w.amountIn(0, 3), 4);
        w.define(0, w.number(1, 0));
        Check.noArgument("23 also if it is BROKEN", () -> w.amountIn(0, 0));
    }

    private static void promise24IsBroken() {
        Waterline w = Models.withVariables(4);
        int one = w.number(1000, 0);
        w.define(1, w.join(PER, one, 0));
        w.define(2, w.join(SUM, 1, one));
        Check.due("24 an INPUT is not", w.isBroken(0), false);
        Check.due("24 PER by 0", w.isBroken(1), true);
        Check.due("24 OF a BROKEN one", w.isBroken(2), true);
        w.set(0, 1);
        Check.due("24 no more", w.isBroken(2), false);
        w.set(0, -1);
        w.define(3, w.root(0));
        Check.due("24 ROOT below 0", w.isBroken(3), true);
        w.unit(1, 0, 0, 0, 1, 1);
        w.define(3, w.number(5, 1));
        Check.due("24 a FAULT", w.isBroken(3), true);
        w.define(3, one);
        Check.due("24 nothing of it", w.isBroken(3), false);
        Check.noIndex("24 no such variable", () -> w.isBroken(4));
        Check.noIndex("24 no variable -1", () -> w.isBroken(-1));
    }

    private static void promise25Worth() {
        Waterline w = Models.withVariables(2);
        int one = w.number(1000, 0);
        int per = w.join(PER, one, 0);
        int above = w.join(SUM, per, one);
        w.define(1, per);
        Check.due("25 BROKEN as a FORMULA would be", w.worth(per), 0);
        Check.due("25 and what names it", w.worth(above), 0);
        Check.due("25 OF a BROKEN one", w.worth(w.join(SUM, 1, one)), 0);
        w.set(0, 500);
        Check.due("25 as all are now", w.worth(above), 3000);
        Check.due("25 of a part alone", w.worth(one), 1000);
        Check.noIndex("25 no such part", () -> w.worth(w.parts()));
        Check.noIndex("25 no part -1", () -> w.worth(-1));
    }

    private static void promise25WorthOfFaulty() {
        Waterline w = new Waterline();
        w.unit(1, 0, 0, 0, 1, 1);
        w.variable(0);
        int plain = w.number(3, 0);
        int length = w.number(4, 1);
        int wrong = w.join(SUM, plain, length);
        Check.due("25 without DIMENSIONS", w.worth(wrong), 7);
        w.define(0, wrong);
        Check.due("25 with a FAULT", w.worth(wrong), 7);
        Check.due("25 the variable is BROKEN all the same", w.worth(w.of(0)), 0);
    }

    private static void promise26Broken() {
        Waterline w = Models.withVariables(3);
        Check.due("26 none", w.broken(), 0);
        w.define(1, w.join(PER, 0, 0));
        w.define(2, 1);
        Check.due("26 two", w.broken(), 2);
        w.set(0, 1);
        Check.due("26 none again", w.broken(), 0);
    }
}
