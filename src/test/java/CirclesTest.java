/** Promises 18 to 21: order and circles. */
public final class CirclesTest {
    private static final int SUM = 2;
    private static final int REST = 3;
    private static final int TIMES = 4;
    private static final int PER = 5;

    public static void main(String[] args) {
        promise18LeansOn();
        promise19Circles();
        promise20Order();
        promise20Turns();
        promise20Open();
        promise20Broken();
        promise20Fault();
        promise20ByNumbers();
        promise20TurnsOfItsOwn();
        promise20Refusals();
        promise21MostTurns();
        Check.end("CirclesTest");
    }

    private static void promise18LeansOn() {
        Waterline w = Models.withVariables(5);
        int never = w.when(w.number(0, 0), 3, 1);
        Check.due("18 an INPUT", w.leansOn(0), 0);
        w.define(0, never);
        Check.due("18 whatever an IF reckons", w.leansOn(0), 10);
        w.define(1, w.join(SUM, 1, 4));
        Check.due("18 itself too", w.leansOn(1), 18);
        Check.due("18 not along ways", w.leansOn(0), 10);
        w.define(1, -1);
        Check.due("18 an INPUT again", w.leansOn(1), 0);
        Check.noIndex("18 no such variable", () -> w.leansOn(5));
        Check.noIndex("18 no variable -1", () -> w.leansOn(-1));
    }

    private static void promise19Circles() {
        Waterline w = Models.withVariables(3);
        Check.due("19 each alone", w.circles(), 3);
        w.define(0, 1);
        w.define(1, 2);
        Check.due("19 one way alone", w.circles(), 3);
        w.define(2, 0);
        Check.due("19 round", w.circles(), 1);
        w.define(2, 2);
        Check.due("19 itself", w.circles(), 3);
    }

    private static void promise20Order() {
        Waterline w = Models.withVariables(6);
        w.define(0, 5);
        w.define(1, 4);
        w.define(4, w.join(SUM, 1, 3));
        w.define(2, 2);
        int[] due = {4, 8, 18, 32, 1};
        int[] round = {1, 0, 1, 0, 0};
        Check.due("20 how many", w.circles(), 5);
        for (int k = 0; k < 5; k++) {
            Check.due("20 the set of " + k, w.circle(k, 0), due[k]);
            Check.due("20 ROUND of " + k, w.circle(k, 1), round[k]);
        }
        w.define(3, 0);
        int[] later = {4, 32, 1, 8, 18};
        for (int k = 0; k < 5; k++) {
            Check.due("20 later the set of " + k, w.circle(k, 0), later[k]);
        }
    }

    private static void promise20Turns() {
        Waterline w = Models.withVariables(2);
        int half = w.join(TIMES, w.number(500, 0), 1);
        w.define(1, w.join(SUM, 0, half));
        w.set(0, 1000);
        Check.due("20 an INPUT makes none", w.circle(0, 2), 0);
        Check.due("20 turns", w.circle(1, 2), 12);
        Check.due("20 SOLVED is not OPEN", w.circle(1, 3), 0);
        w.set(0, 0);
        Check.due("20 SOLVED at once", w.circle(1, 2), 1);
    }

    /** The variable 1 becomes itself and the variable 0. */
    private static void promise20Open() {
        Waterline w = Models.withVariables(2);
        w.define(1, w.join(SUM, 0, 1));
        w.set(0, 11);
        Check.due("20 the 40th is the last", w.circle(1, 2), 40);
        Check.due("20 it is OPEN", w.circle(1, 3), 1);
        Check.due("20 as it is then", w.amount(1), 440);
        w.setTurns(10, 100);
        Check.due("20 more than the SLACK", w.circle(1, 3), 1);
        w.setTurns(11, 100);
        Check.due("20 not more than the SLACK", w.circle(1, 2), 1);
        Check.due("20 SOLVED then", w.circle(1, 3), 0);
        solvedInTheLastTurn();
    }

    /** It counts up to a bound that it reaches in the 39th turn, or in the 40th. */
    private static void solvedInTheLastTurn() {
        Waterline w = Models.withVariables(2);
        w.define(1, w.join(6, w.join(SUM, 1, w.number(1, 0)), 0));
        w.set(0, 39);
        Check.due("20 the 40th turn is made", w.circle(1, 2), 40);
        Check.due("20 and nothing became other in it", w.circle(1, 3), 0);
        w.set(0, 40);
        Check.due("20 the 40th turn too", w.circle(1, 2), 40);
        Check.due("20 and something became other in it", w.circle(1, 3), 1);
    }

    /** 1 / (2 - x): 0.5, 0.666, 0.749, .. or with another start a division by 0. */
    private static void promise20Broken() {
        Waterline w = Models.withVariables(3);
        int two = w.number(2000, 0);
        int below = w.join(REST, two, 1);
        w.define(1, w.join(SUM, w.join(PER, 0, below), w.join(TIMES, w.number(0, 0), 2)));
        w.define(2, 1);
        w.set(0, 4000);
        Check.due("20 BROKEN in the second turn", w.circle(1, 2), 2);
        Check.due("20 all in it", w.broken(), 2);
        Check.due("20 BROKEN is not OPEN", w.circle(1, 3), 0);
        Check.due("20 it is ROUND all the same", w.circle(1, 1), 1);
        w.set(0, 1000);
        Check.due("20 whole again", w.broken(), 0);
    }

    private static void promise20Fault() {
        Waterline w = Models.withVariables(3);
        w.unit(1, 0, 0, 0, 1, 1);
        w.variable(1);
        int length = w.of(3);
        int wrong = w.join(SUM, 1, length);
        w.define(0, 1);
        w.define(1, w.when(w.number(1000, 0), 0, wrong));
        w.define(2, 0);
        Check.due("20 the circle", w.circle(0, 0), 8);
        Check.due("20 and the one with a FAULT", w.circle(1, 0), 3);
        Check.due("20 with a FAULT no turns", w.circle(1, 2), 0);
        Check.due("20 not OPEN", w.circle(1, 3), 0);
        Check.due("20 all BROKEN, and what leans on it", w.broken(), 3);
        Check.due("20 a FAULT for one alone", w.faults(), 1);
    }

    /** Each takes what those ahead of it have become in the same turn. */
    private static void promise20ByNumbers() {
        Waterline w = Models.withVariables(3);
        int one = w.number(1, 0);
        w.define(0, w.join(SUM, 2, one));
        w.define(1, w.join(SUM, 0, one));
        w.define(2, w.join(SUM, 1, one));
        Check.due("20 the last one", w.amount(2), 120);
        Check.due("20 the first one", w.amount(0), 118);
        w.define(0, w.join(SUM, 1, one));
        w.define(1, w.join(SUM, 2, one));
        w.define(2, w.join(SUM, 0, one));
        Check.due("20 against the numbers", w.amount(2), 60);
        Check.due("20 against the numbers, first", w.amount(0), 59);
        Check.due("20 against the numbers, second", w.amount(1), 60);
    }

    /** What comes later has no part in the turns. */
    private static void promise20TurnsOfItsOwn() {
        Waterline w = Models.withVariables(3);
        w.define(0, w.join(SUM, w.number(1000, 0), w.join(TIMES, 0, w.number(500, 0))));
        w.define(1, w.join(PER, 0, 2));
        Check.due("20 one that comes later is BROKEN", w.broken(), 1);
        Check.due("20 the circle is not", w.circle(0, 2), 12);
        w.set(2, 1);
        Check.due("20 one that comes later moves far", w.amount(1), 1999000);
        Check.due("20 the circle does not", w.circle(0, 2), 12);
    }

    private static void promise20Refusals() {
        Waterline w = Models.withVariables(2);
        Check.noIndex("20 no circle 2", () -> w.circle(2, 0));
        Check.noIndex("20 no circle -1", () -> w.circle(-1, 0));
        Check.noArgument("20 what 4", () -> w.circle(0, 4));
        Check.noArgument("20 what -1", () -> w.circle(0, -1));
        Check.noIndex("20 index ahead of argument", () -> w.circle(2, 4));
        Check.noIndex("20 none at all", () -> new Waterline().circle(0, 0));
    }

    private static void promise21MostTurns() {
        Waterline w = Models.withVariables(4);
        Check.due("21 none", w.mostTurns(), 0);
        w.set(0, 1);
        w.define(1, w.join(SUM, 1, 0));
        Check.due("21 one that is OPEN", w.mostTurns(), 40);
        w.define(1, w.join(TIMES, 1, 0));
        Check.due("21 one at once", w.mostTurns(), 1);
        int two = w.number(2000, 0);
        w.define(2, w.join(PER, w.number(4000, 0), w.join(REST, two, 2)));
        Check.due("21 the greatest, BROKEN or not", w.mostTurns(), 2);
        w.define(1, -1);
        w.define(2, -1);
        Check.due("21 none again", w.mostTurns(), 0);
    }
}
