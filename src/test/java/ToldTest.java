/** Promises 1 to 14: what is told. */
public final class ToldTest {
    private static final int SUM = 2;
    private static final int REST = 3;
    private static final int TIMES = 4;
    private static final int PER = 5;
    private static final int LEAST = 6;
    private static final int MOST = 7;
    private static final int BILLION = 1000000000;
    private static final int[] NO_PART = {-1, Integer.MIN_VALUE, 1, 60, Integer.MAX_VALUE};

    public static void main(String[] args) {
        promise1NewObject();
        promise2Unit();
        promise2UnitExponents();
        promise3Variable();
        promise4Number();
        promise5Of();
        promise6Join();
        promise7When();
        promise8Root();
        promise9Define();
        promise10Set();
        promise11SetTurns();
        promise11Refusals();
        promises12To14Counts();
        Check.end("ToldTest");
    }

    private static void promise1NewObject() {
        Waterline w = new Waterline();
        Check.due("1 units", w.units(), 1);
        Check.due("1 variables", w.variables(), 0);
        Check.due("1 parts", w.parts(), 0);
        Check.due("1 faults", w.faults(), 0);
        Check.due("1 circles", w.circles(), 0);
        Check.due("1 mostTurns", w.mostTurns(), 0);
        Check.due("1 broken", w.broken(), 0);
        Check.due("1 the UNIT 0 is 1 / 1", w.worth(w.number(-77, 0)), -77);
        for (int dimension = 0; dimension < 4; dimension++) {
            Check.due("1 the UNIT 0 has no EXPONENT", w.exponent(0, dimension), 0);
        }
        Check.due("1 the SLACK is 0", w.setTurns(0, 100), 0);
        Check.due("1 another object has nothing of it", new Waterline().parts(), 0);
    }

    private static void promise2Unit() {
        Waterline w = new Waterline();
        for (int k = 1; k < 12; k++) {
            Check.due("2 number of the unit", w.unit(k % 4, -k % 4, 0, 0, k, 100000), k);
        }
        Check.noState("2 a thirteenth", () -> w.unit(0, 0, 0, 0, 1, 1));
        Check.noArgument("2 argument ahead of state", () -> w.unit(0, 0, 0, 0, 0, 1));
        Check.noArgument("2 exponent ahead of state", () -> w.unit(0, 0, 0, 4, 1, 1));
        Check.due("2 nothing is changed", w.units(), 12);
        Waterline v = new Waterline();
        int[] bad = {0, -1, 100001, Integer.MIN_VALUE, Integer.MAX_VALUE};
        for (int x : bad) {
            Check.noArgument("2 p " + x, () -> v.unit(0, 0, 0, 0, x, 1));
            Check.noArgument("2 q " + x, () -> v.unit(0, 0, 0, 0, 1, x));
        }
        Check.due("2 edges of p and q", v.unit(0, 0, 0, 0, 100000, 1), 1);
        Check.due("2 edges of q and p", v.unit(0, 0, 0, 0, 1, 100000), 2);
        Check.due("2 p counts", v.worth(v.number(3, 1)), 300000);
        Check.due("2 q counts", v.worth(v.number(-BILLION, 2)), -10000);
    }

    private static void promise2UnitExponents() {
        Waterline w = new Waterline();
        int[] bad = {4, -4, Integer.MIN_VALUE, Integer.MAX_VALUE};
        for (int x : bad) {
            Check.noArgument("2 first " + x, () -> w.unit(x, 0, 0, 0, 1, 1));
            Check.noArgument("2 second " + x, () -> w.unit(0, x, 0, 0, 1, 1));
            Check.noArgument("2 third " + x, () -> w.unit(0, 0, x, 0, 1, 1));
            Check.noArgument("2 fourth " + x, () -> w.unit(0, 0, 0, x, 1, 1));
        }
        Check.due("2 refused ones are not there", w.units(), 1);
        Check.due("2 the edges are", w.unit(3, -3, 2, -2, 1, 1), 1);
        int part = w.number(1, 1);
        Check.due("2 first", w.exponent(part, 0), 3);
        Check.due("2 second", w.exponent(part, 1), -3);
        Check.due("2 third", w.exponent(part, 2), 2);
        Check.due("2 fourth", w.exponent(part, 3), -2);
    }

    private static void promise3Variable() {
        Waterline w = new Waterline();
        w.unit(1, 0, 0, 0, 1, 1);
        Check.noIndex("3 no such unit", () -> w.variable(2));
        Check.noIndex("3 no unit -1", () -> w.variable(-1));
        for (int k = 0; k < 16; k++) {
            Check.due("3 number of the variable", w.variable(k % 2), k);
        }
        Check.noState("3 a seventeenth", () -> w.variable(0));
        Check.noIndex("3 index ahead of state", () -> w.variable(2));
        Check.due("3 nothing is changed", w.variables(), 16);
        Check.due("3 it is an INPUT", w.define(15, -1), -1);
        Check.due("3 with 0", w.amount(15), 0);
        Check.due("3 with its UNIT", w.exponent(w.of(15), 0), 1);
    }

    private static void promise4Number() {
        Waterline w = new Waterline();
        w.unit(0, 1, 0, 0, 60, 7);
        w.unit(0, 1, 0, 0, 100000, 1);
        Check.due("4 number of the part", w.number(10, 1), 0);
        Check.due("4 without UNIT", w.worth(0), 85);
        Check.due("4 cut towards 0", w.worth(w.number(-10, 1)), -85);
        Check.due("4 KEPT above", w.worth(w.number(10001, 2)), BILLION);
        Check.due("4 KEPT below", w.worth(w.number(-BILLION, 2)), -BILLION);
        Check.due("4 with its DIMENSIONS", w.exponent(0, 1), 1);
        Check.noIndex("4 no such unit", () -> w.number(0, 3));
        Check.noIndex("4 no unit -1", () -> w.number(0, -1));
        Check.noArgument("4 n too great", () -> w.number(BILLION + 1, 0));
        Check.noArgument("4 n too small", () -> w.number(-BILLION - 1, 0));
        Check.noIndex("4 index ahead of argument", () -> w.number(BILLION + 1, 3));
        Check.due("4 greatest n", w.worth(w.number(BILLION, 0)), BILLION);
        Check.due("4 least n", w.worth(w.number(-BILLION, 0)), -BILLION);
        fill(w);
        Check.noState("4 a sixty-first", () -> w.number(0, 0));
        Check.noArgument("4 argument ahead of state", () -> w.number(BILLION + 1, 0));
        Check.noIndex("4 index ahead of state", () -> w.number(0, 3));
        Check.due("4 nothing is changed", w.parts(), 60);
    }

    private static void fill(Waterline w) {
        while (w.parts() < 60) {
            w.number(0, 0);
        }
    }

    private static void promise5Of() {
        Waterline w = new Waterline();
        w.unit(2, 0, -1, 0, 1000, 1);
        w.variable(1);
        w.set(0, 5);
        Check.due("5 number of the part", w.of(0), 0);
        Check.due("5 is as the variable", w.worth(0), 5000);
        Check.due("5 has its DIMENSIONS", w.exponent(0, 2), -1);
        Check.noIndex("5 no such variable", () -> w.of(1));
        Check.noIndex("5 no variable -1", () -> w.of(-1));
        fill(w);
        Check.noState("5 a sixty-first", () -> w.of(0));
        Check.noIndex("5 index ahead of state", () -> w.of(1));
        Check.due("5 nothing is changed", w.parts(), 60);
    }

    private static int joined(int code, int a, int b) {
        Waterline w = new Waterline();
        int first = w.number(a, 0);
        int second = w.number(b, 0);
        int part = w.join(code, first, second);
        Check.due("6 number of the part", part, 2);
        return w.worth(part);
    }

    private static void promise6Join() {
        Check.due("6 SUM", joined(SUM, 1500, -4000), -2500);
        Check.due("6 SUM KEPT", joined(SUM, BILLION, 1), BILLION);
        Check.due("6 SUM KEPT below", joined(SUM, -BILLION, -BILLION), -BILLION);
        Check.due("6 REST", joined(REST, 1500, -4000), 5500);
        Check.due("6 REST KEPT", joined(REST, -BILLION, BILLION), -BILLION);
        Check.due("6 TIMES", joined(TIMES, 2500, 3001), 7502);
        Check.due("6 TIMES cut towards 0", joined(TIMES, -2500, 3001), -7502);
        Check.due("6 TIMES KEPT", joined(TIMES, BILLION, -BILLION), -BILLION);
        Check.due("6 PER", joined(PER, 2000, 3000), 666);
        Check.due("6 PER cut towards 0", joined(PER, 2000, -3000), -666);
        Check.due("6 PER KEPT", joined(PER, BILLION, 1), BILLION);
        Check.due("6 PER by 0", joined(PER, 2000, 0), 0);
        Check.due("6 LEAST", joined(LEAST, 3, -4), -4);
        Check.due("6 LEAST of the first", joined(LEAST, -4, 3), -4);
        Check.due("6 MOST", joined(MOST, 3, -4), 3);
        Check.due("6 MOST of the second", joined(MOST, -4, 3), 3);
        Waterline w = new Waterline();
        w.number(0, 0);
        for (int x : NO_PART) {
            Check.noIndex("6 no a " + x, () -> w.join(SUM, x, 0));
            Check.noIndex("6 no b " + x, () -> w.join(SUM, 0, x));
        }
        Check.noIndex("6 index ahead of argument", () -> w.join(1, 0, 1));
        for (int code : new int[] {1, 8, 0, 9, -1, Integer.MAX_VALUE}) {
            Check.noArgument("6 code " + code, () -> w.join(code, 0, 0));
        }
        Check.due("6 nothing is changed", w.parts(), 1);
        fill(w);
        Check.noState("6 a sixty-first", () -> w.join(SUM, 0, 59));
        Check.noArgument("6 argument ahead of state", () -> w.join(8, 0, 59));
        Check.noIndex("6 index ahead of state", () -> w.join(SUM, 0, 60));
    }

    private static void promise7When() {
        Waterline w = new Waterline();
        w.variable(0);
        int a = w.of(0);
        int b = w.number(7, 0);
        int c = w.number(9, 0);
        int part = w.when(a, b, c);
        Check.due("7 number of the part", part, 3);
        Check.due("7 0 is not above 0", w.worth(part), 9);
        w.set(0, 1);
        Check.due("7 above 0", w.worth(part), 7);
        w.set(0, -1);
        Check.due("7 below 0", w.worth(part), 9);
        for (int x : new int[] {-1, 4, 60, Integer.MIN_VALUE}) {
            Check.noIndex("7 no a " + x, () -> w.when(x, 0, 0));
            Check.noIndex("7 no b " + x, () -> w.when(0, x, 0));
            Check.noIndex("7 no c " + x, () -> w.when(0, 0, x));
        }
        Check.due("7 nothing is changed", w.parts(), 4);
        fill(w);
        Check.noState("7 a sixty-first", () -> w.when(0, 0, 0));
        Check.noIndex("7 index ahead of state", () -> w.when(0, 0, 60));
    }

    private static int rootOf(int n) {
        Waterline w = new Waterline();
        int part = w.root(w.number(n, 0));
        Check.due("8 number of the part", part, 1);
        return w.worth(part);
    }

    private static void promise8Root() {
        Check.due("8 of 4", rootOf(4000), 2000);
        Check.due("8 of 2", rootOf(2000), 1414);
        Check.due("8 of 0", rootOf(0), 0);
        Check.due("8 of the least", rootOf(1), 31);
        Check.due("8 of the greatest", rootOf(BILLION), 1000000);
        Check.due("8 just below a square", rootOf(999), 999);
        Check.due("8 of 999999999", rootOf(BILLION - 1), 999999);
        Check.due("8 below 0 is BROKEN", rootOf(-1), 0);
        Waterline w = new Waterline();
        w.number(1, 0);
        for (int x : NO_PART) {
            Check.noIndex("8 no a " + x, () -> w.root(x));
        }
        fill(w);
        Check.noState("8 a sixty-first", () -> w.root(0));
        Check.noIndex("8 index ahead of state", () -> w.root(60));
        Check.due("8 nothing is changed", w.parts(), 60);
    }

    private static void promise9Define() {
        Waterline w = new Waterline();
        w.variable(0);
        w.variable(0);
        w.set(0, 11);
        int five = w.number(5, 0);
        int six = w.number(6, 0);
        Check.due("9 it was an INPUT", w.define(0, five), -1);
        Check.due("9 it is its FORMULA", w.amount(0), 5);
        Check.due("9 the FORMULA before", w.define(0, six), five);
        Check.due("9 it is the other one", w.amount(0), 6);
        Check.due("9 an INPUT again", w.define(0, -1), six);
        Check.due("9 with what was set last", w.amount(0), 11);
        Check.due("9 an INPUT already", w.define(0, -1), -1);
        w.define(1, five);
        w.define(1, -1);
        Check.due("9 0 at first", w.amount(1), 0);
        Check.noIndex("9 no such variable", () -> w.define(2, five));
        Check.noIndex("9 no variable -1", () -> w.define(-1, -1));
        Check.noIndex("9 no such part", () -> w.define(0, 2));
        Check.noIndex("9 no part -2", () -> w.define(0, -2));
        Check.noIndex("9 no part at all", () -> w.define(0, Integer.MIN_VALUE));
        Check.due("9 nothing is changed", w.amount(0), 11);
    }

    private static void promise10Set() {
        Waterline w = new Waterline();
        w.unit(0, 0, 1, 0, 10, 3);
        w.variable(1);
        w.unit(0, 0, 0, 0, 100000, 1);
        w.variable(2);
        Check.due("10 without UNIT", w.set(0, 100), 333);
        Check.due("10 cut towards 0", w.set(0, -100), -333);
        Check.due("10 it stands", w.amount(0), -333);
        Check.due("10 KEPT", w.set(1, BILLION), BILLION);
        Check.due("10 KEPT below", w.set(1, -BILLION), -BILLION);
        Check.noIndex("10 no such variable", () -> w.set(2, 0));
        Check.noIndex("10 no variable -1", () -> w.set(-1, 0));
        Check.noArgument("10 too great", () -> w.set(0, BILLION + 1));
        Check.noArgument("10 too small", () -> w.set(0, -BILLION - 1));
        Check.noIndex("10 index ahead of argument", () -> w.set(2, BILLION + 1));
        w.define(0, w.number(1, 1));
        Check.noState("10 it has a FORMULA", () -> w.set(0, 0));
        Check.noArgument("10 argument ahead of state", () -> w.set(0, BILLION + 1));
        w.define(0, -1);
        Check.due("10 nothing is changed", w.amount(0), -333);
    }

    /** The variable 0 is half of itself and 1000: it nears 2000. */
    private static Waterline halving() {
        Waterline w = new Waterline();
        w.variable(0);
        int half = w.join(TIMES, w.number(500, 0), w.of(0));
        w.define(0, w.join(SUM, w.number(1000, 0), half));
        return w;
    }

    private static void promise11SetTurns() {
        Waterline w = halving();
        Check.due("11 without SLACK", w.amount(0), 1999);
        Check.due("11 turns without SLACK", w.mostTurns(), 12);
        Check.due("11 the SLACK before", w.setTurns(250, 100), 0);
        Check.due("11 with SLACK", w.amount(0), 1750);
        Check.due("11 turns with SLACK", w.mostTurns(), 3);
        Check.due("11 the SLACK before that", w.setTurns(249, 100), 250);
        Check.due("11 by more than the SLACK", w.mostTurns(), 4);
        Check.due("11 DAMPING", w.setTurns(10000, 50), 249);
        Check.due("11 half of the way", w.amount(0), 500);
        w.setTurns(10000, 1);
        Check.due("11 a hundredth of the way", w.amount(0), 10);
        w.setTurns(0, 1);
        Check.due("11 what is added is cut", w.amount(0), 344);
    }

    private static void promise11Refusals() {
        Waterline w = halving();
        w.setTurns(250, 100);
        for (int slack : new int[] {-1, 10001, Integer.MIN_VALUE, Integer.MAX_VALUE}) {
            Check.noArgument("11 slack " + slack, () -> w.setTurns(slack, 50));
        }
        for (int damping : new int[] {0, -1, 101, Integer.MIN_VALUE, Integer.MAX_VALUE}) {
            Check.noArgument("11 damping " + damping, () -> w.setTurns(5, damping));
        }
        Check.due("11 nothing is changed", w.amount(0), 1750);
        Check.due("11 the SLACK neither", w.setTurns(0, 1), 250);
        Check.due("11 edges", w.setTurns(10000, 100), 0);
    }

    private static void promises12To14Counts() {
        Waterline w = new Waterline();
        w.unit(0, 0, 0, 0, 1, 1);
        w.unit(0, 0, 0, 0, 1, 1);
        w.variable(0);
        w.variable(1);
        w.variable(2);
        w.number(1, 0);
        w.of(0);
        w.join(SUM, 0, 1);
        w.when(0, 1, 2);
        w.root(0);
        Check.due("12 units", w.units(), 3);
        Check.due("13 variables", w.variables(), 3);
        Check.due("14 parts", w.parts(), 5);
    }
}
