import java.util.List;

/**
 * "A method that throws an exception changes nothing. If several exceptions apply, the one that is
 * named first is thrown": each call is refused, and behind it all is as in a model in which it was
 * not made.
 */
public final class RefusalsTest {
    private static final String INDEX = "throws.IndexOutOfBoundsException";
    private static final String ARGUMENT = "throws.IllegalArgumentException";
    private static final String STATE = "throws.IllegalStateException";
    private static final String MIN = " " + Integer.MIN_VALUE;
    private static final String MAX = " " + Integer.MAX_VALUE;

    private static List<String> model;
    private static List<String> untouched;

    public static void main(String[] args) {
        inTheEmptyOne();
        inTheSmallOne();
        inTheFullOneNoRoom();
        inTheFullOneUnits();
        inTheFullOneWhatIsTold();
        inTheFullOneWhatIsAsked();
        inTheFullOneGoals();
        inTheFullOneCases();
        Check.end("RefusalsTest");
    }

    private static void in(List<String> calls) {
        model = calls;
        untouched = Calls.answers(Calls.made(new Waterline(), model), Models.probes());
    }

    /** Refused both before and behind a call that reckons everything. */
    private static void refused(String due, String... calls) {
        for (String call : calls) {
            Waterline w = Calls.made(new Waterline(), model);
            Check.due(call, Calls.answer(w, call), due);
            Check.due("what stands behind " + call, Calls.answers(w, Models.probes()), untouched);
            Waterline reckoned = Calls.made(new Waterline(), model);
            reckoned.digest();
            Check.due(call + " again", Calls.answer(reckoned, call), due);
            Check.due("what stands behind the second " + call, Calls.answers(reckoned, Models.probes()), untouched);
        }
    }

    private static void inTheEmptyOne() {
        in(Models.EMPTY);
        refused(ARGUMENT, "unit 4 0 0 0 1 1", "unit 0 0 0 0 0 1", "unit 0 0 0 0 1 100001", "setTurns -1 100",
                "setTurns 0 0");
        refused(INDEX, "variable 1", "variable -1", "number 0 1", "number 0 -1", "number 1000000001 1");
        refused(ARGUMENT, "number 1000000001 0", "number -1000000001 0");
        refused(INDEX, "of 0", "join 2 0 0", "join 1 0 0", "when 0 0 0", "root 0", "define 0 -1", "define 0 0",
                "set 0 0", "set 0 1000000001");
        refused(INDEX, "exponent 0 0", "ofFault 0 0", "ofFault 0 3", "leansOn 0", "circle 0 0", "circle 0 4", "amount 0",
                "amountIn 0 0", "isBroken 0", "worth 0");
        refused(INDEX, "seek 0 0 0 0 0", "seek 0 0 0 1 0", "amountWith 0 0 0", "slope 0 0 1", "slope 0 0 0", "movedBy 0",
                "best 0 0 0 0 1", "best 0 0 0 0 0", "faultsWith 0 0", "faultsWith 0 -1");
        refused(INDEX, "keep 4", "keep -1", "load 4", "load -1", "amountOf 0 0", "amountOf 4 0");
        refused(STATE, "load 0", "load 1", "load 2", "load 3");
    }

    /** One INPUT, two FORMULAS, five parts, two units, a CASE in the place 1. */
    private static void inTheSmallOne() {
        in(Models.SMALL);
        refused(INDEX, "variable 2", "number 0 2", "of 3", "join 2 5 0", "join 2 0 5", "when 5 0 0", "when 0 5 0",
                "when 0 0 5", "root 5", "define 3 0", "define 0 5", "set 3 0");
        refused(INDEX, "exponent 5 0", "ofFault 1 0", "leansOn 3", "circle 3 0", "amount 3", "amountIn 3 0",
                "amountIn 0 2", "isBroken 3", "worth 5");
        refused(INDEX, "seek 3 0 0 0 0", "seek 0 3 0 0 0", "amountWith 3 0 0", "amountWith 0 3 0", "slope 3 0 1",
                "slope 0 3 1", "movedBy 3", "best 3 0 0 0 1", "best 0 3 0 0 1", "faultsWith 3 0", "faultsWith 0 5");
        refused(ARGUMENT, "amountIn 0 1", "amountIn 2 0", "join 1 0 0", "join 8 0 0");
        refused(STATE, "set 1 0", "set 2 0", "load 0", "load 2", "load 3", "amountOf 0 0", "amountOf 2 0", "amountOf 3 0");
        refused(INDEX, "amountOf 0 3", "amountOf 1 3", "amountOf 0 -1");
    }

    /** The argument that is wrong is told ahead of the room that is not there. */
    private static void inTheFullOneNoRoom() {
        in(Models.FULL);
        refused(STATE, "unit 0 0 0 0 1 1", "unit -3 3 -3 3 100000 100000", "variable 0", "variable 11");
        refused(STATE, "number 0 0", "number 1000000000 11", "number -1000000000 0", "of 0", "of 15");
        refused(STATE, "join 2 0 0", "join 7 59 59", "when 0 0 0", "when 59 59 59", "root 0", "root 59");
        refused(INDEX, "variable 12", "variable -1", "variable" + MIN, "variable" + MAX, "number 0 12", "number 0 -1",
                "number 1000000001 12", "of 16", "of -1", "of" + MIN, "of" + MAX);
        refused(ARGUMENT, "number 1000000001 0", "number -1000000001 11", "number" + MIN + " 0", "number" + MAX + " 0");
        refused(INDEX, "join 2 60 0", "join 2 0 60", "join 1 60 0", "join 8 0 -1", "join 2 -1 0", "join 2" + MIN + " 0",
                "join 2 0" + MAX);
        refused(ARGUMENT, "join 1 0 0", "join 8 59 59", "join 0 0 0", "join 9 0 0", "join" + MIN + " 0 0",
                "join" + MAX + " 0 0");
        refused(INDEX, "when 60 0 0", "when 0 60 0", "when 0 0 60", "when -1 0 0", "when 0 -1 0", "when 0 0 -1",
                "root 60", "root -1", "root" + MIN, "root" + MAX);
    }

    private static void inTheFullOneUnits() {
        in(Models.FULL);
        for (String wrong : new String[] {"4", "-4", "2147483647", "-2147483648"}) {
            refused(ARGUMENT, "unit " + wrong + " 0 0 0 1 1", "unit 0 " + wrong + " 0 0 1 1",
                    "unit 0 0 " + wrong + " 0 1 1", "unit 0 0 0 " + wrong + " 1 1");
        }
        for (String wrong : new String[] {"0", "-1", "100001", "2147483647", "-2147483648"}) {
            refused(ARGUMENT, "unit 0 0 0 0 " + wrong + " 1", "unit 0 0 0 0 1 " + wrong);
        }
    }

    private static void inTheFullOneWhatIsTold() {
        in(Models.FULL);
        refused(INDEX, "define 16 -1", "define 16 0", "define -1 0", "define 0 60", "define 0 -2", "define 16 60",
                "define" + MIN + " 0", "define" + MAX + " 0", "define 0" + MIN, "define 0" + MAX);
        refused(INDEX, "set 16 0", "set -1 0", "set 16 1000000001", "set" + MIN + " 0", "set" + MAX + " 0");
        refused(ARGUMENT, "set 0 1000000001", "set 0 -1000000001", "set 2 1000000001", "set 2 -1000000001",
                "set 0" + MIN, "set 0" + MAX);
        refused(STATE, "set 2 0", "set 4 1000000000", "set 14 -1000000000");
        refused(ARGUMENT, "setTurns -1 50", "setTurns 10001 50", "setTurns 0 0", "setTurns 0 101", "setTurns -1 0",
                "setTurns" + MIN + " 50", "setTurns" + MAX + " 50", "setTurns 9" + MIN, "setTurns 9" + MAX);
    }

    private static void inTheFullOneWhatIsAsked() {
        in(Models.FULL);
        refused(INDEX, "exponent 60 0", "exponent -1 0", "exponent 0 4", "exponent 0 -1", "exponent" + MIN + " 0",
                "exponent" + MAX + " 0", "exponent 0" + MIN, "exponent 0" + MAX);
        refused(INDEX, "ofFault -1 0", "ofFault 99 0", "ofFault 99 3", "ofFault" + MIN + " 0", "ofFault" + MAX + " 0");
        refused(ARGUMENT, "ofFault 0 3", "ofFault 0 -1", "ofFault 0" + MIN, "ofFault 0" + MAX);
        refused(INDEX, "circle 16 0", "circle -1 0", "circle 16 4", "circle" + MIN + " 0", "circle" + MAX + " 0");
        refused(ARGUMENT, "circle 0 4", "circle 0 -1", "circle 0" + MIN, "circle 0" + MAX);
        for (String name : new String[] {"leansOn", "amount", "isBroken", "movedBy"}) {
            refused(INDEX, name + " 16", name + " -1", name + MIN, name + MAX);
        }
        refused(INDEX, "worth 60", "worth -1", "worth" + MIN, "worth" + MAX);
        refused(INDEX, "amountIn 16 0", "amountIn -1 0", "amountIn 0 12", "amountIn 0 -1", "amountIn 16 1");
        refused(ARGUMENT, "amountIn 0 0", "amountIn 3 11", "amountIn 10 0", "amountIn 12 4");
    }

    private static void inTheFullOneGoals() {
        in(Models.FULL);
        for (String behind : new String[] {"seek % 0 0 9", "seek % 0 9 0", "amountWith % 0", "amountWith % 1000000001",
                "slope % 1", "slope % 0", "best % 0 0 1", "best % 0 0 0"}) {
            for (String two : new String[] {"16 0", "0 16", "-1 0", "0 -1", "2 16", "16 2", "-2147483648 0",
                    "0 2147483647"}) {
                refused(INDEX, behind.replace("%", two));
            }
        }
        for (String two : new String[] {"0 2", "2 0"}) {
            refused(ARGUMENT, "seek " + two + " 0 1 0", "seek " + two + " 0 -1000000001 0",
                    "seek " + two + " 0 0 1000000001", "seek " + two + " 0 1000000001 1000000001",
                    "seek " + two + " 0 -1000000001 -1000000001", "seek " + two + " 0 1000000000 -1000000000");
            refused(ARGUMENT, "amountWith " + two + " 1000000001", "amountWith " + two + " -1000000001");
            refused(ARGUMENT, "slope " + two + " 0", "slope " + two + " 1000001", "slope " + two + " -1");
            refused(ARGUMENT, "best " + two + " 1000001 0 1", "best " + two + " -1000001 0 1",
                    "best " + two + " 0 1000001 1", "best " + two + " 0 -1000001 1", "best " + two + " 0 0 0",
                    "best " + two + " 0 0 21");
        }
        refused(STATE, "seek 2 0 0 0 0", "seek 2 2 0 -1000000000 1000000000", "amountWith 4 0 0", "slope 5 5 1",
                "slope 14 0 1000000", "best 6 0 0 0 1", "best 9 9 1000000 -1000000 20");
        refused(INDEX, "faultsWith 16 0", "faultsWith -1 0", "faultsWith 0 60", "faultsWith 0 -1", "faultsWith 16 60");
    }

    /** All four are kept there, so what lacks one is asked in the small one. */
    private static void inTheFullOneCases() {
        in(Models.FULL);
        for (String name : new String[] {"keep", "load"}) {
            refused(INDEX, name + " 4", name + " -1", name + MIN, name + MAX);
        }
        refused(INDEX, "amountOf 4 0", "amountOf -1 0", "amountOf 0 16", "amountOf 3 -1", "amountOf 4 16",
                "amountOf" + MIN + " 0", "amountOf" + MAX + " 0");
        in(Models.SMALL);
        refused(INDEX, "keep 4", "keep -1", "load 4", "load -1", "amountOf 4 0", "amountOf -1 0", "amountOf 4 3");
    }
}
