import java.util.ArrayList;
import java.util.List;

/**
 * Each call with the smallest and the largest arguments, and those just beyond, in all their
 * combinations, on a model with nothing in it, on a small one, and on a full one: the answer, or
 * the exception that is named first, is held against the reference.
 */
public final class CombinationsTest {
    /** The document promises nothing beyond the 512th call. */
    private static final int MOST_CALLS = 512;
    private static final String FAR = "-2147483648 2147483647 ";
    private static final String AMOUNT = FAR + "-1000000001 -1000000000 0 1000000000 1000000001";
    private static final String SMALL_AMOUNT = FAR + "-1000001 -1000000 0 1000000 1000001";
    private static final String EXPONENT = "-4 -3 3 4";
    private static final String FACTOR = "0 1 100000 100001";

    private static List<String> model;
    private static Waterline program;
    private static Reference reference;
    private static int calls;

    public static void main(String[] args) {
        in(Models.EMPTY, 1, 0, 0);
        in(Models.SMALL, 2, 3, 5);
        in(Models.FULL, 12, 16, 60);
        Check.end("CombinationsTest");
    }

    private static void in(List<String> building, int units, int variables, int parts) {
        model = building;
        afresh();
        Check.due("units", program.units(), units);
        Check.due("variables", program.variables(), variables);
        Check.due("parts", program.parts(), parts);
        ask(numbersOf(units), numbersOf(variables), numbersOf(parts));
        tell(numbersOf(units), numbersOf(variables), numbersOf(parts));
    }

    private static String numbersOf(int count) {
        return FAR + "-2 -1 0 2 " + (count - 1) + " " + count;
    }

    private static void afresh() {
        program = Calls.made(new Waterline(), model);
        reference = Calls.made(new Reference(), model);
        calls = model.size();
    }

    private static void ask(String unit, String variable, String part) {
        String place = FAR + "-1 0 1 3 4";
        all("exponent", part, FAR + "-1 0 3 4");
        all("ofFault", numbersOf(program.faults()), FAR + "-1 0 1 2 3");
        all("leansOn", variable);
        all("circle", numbersOf(program.circles()), FAR + "-1 0 1 2 3 4");
        all("amount", variable);
        all("amountIn", variable, unit);
        all("isBroken", variable);
        all("worth", part);
        all("seek", variable, variable, FAR + "0", AMOUNT, "-1000000001 -1000000000 1000000000 1000000001");
        all("amountWith", variable, variable, AMOUNT);
        all("slope", variable, variable, FAR + "0 1 1000000 1000001");
        all("movedBy", variable);
        all("best", variable, variable, "-1000001 -1000000 1000000 1000001", "-1000001 -1000000 1000000 1000001",
                "0 1 20 21");
        all("best", "0 2", "0 2", SMALL_AMOUNT, SMALL_AMOUNT, FAR + "0 1 20 21");
        all("faultsWith", variable, part);
        all("amountOf", place, variable);
        all("load", place);
    }

    private static void tell(String unit, String variable, String part) {
        all("unit", EXPONENT, EXPONENT, "0", "0", FACTOR, "1");
        all("unit", "0", "0", EXPONENT, EXPONENT, "1", FACTOR);
        all("unit", EXPONENT, "0", "0", EXPONENT, FACTOR, FACTOR);
        all("variable", unit);
        all("number", AMOUNT, unit);
        all("of", variable);
        all("join", FAR + "1 2 7 8", part, part);
        all("when", part, part, part);
        all("root", part);
        all("define", variable, part);
        all("set", variable, AMOUNT);
        all("setTurns", FAR + "-1 0 10000 10001", FAR + "0 1 100 101");
        all("keep", FAR + "-1 0 1 3 4");
    }

    private static void all(String name, String... choices) {
        List<String> told = new ArrayList<>(List.of(name));
        for (String choice : choices) {
            List<String> longer = new ArrayList<>();
            for (String start : told) {
                for (String word : choice.split(" ")) {
                    longer.add(start + " " + word);
                }
            }
            told = longer;
        }
        told.forEach(CombinationsTest::same);
    }

    private static void same(String call) {
        Object due = Calls.answer(reference, call);
        Check.due(call, Calls.answer(program, call), due);
        calls++;
        boolean changed = !(due instanceof String) && isToldOne(call);
        if (changed) {
            Check.due("digest behind " + call, program.digest(), reference.digest());
        }
        if (changed || calls >= MOST_CALLS) {
            afresh();
        }
    }

    private static boolean isToldOne(String call) {
        String name = call.substring(0, call.indexOf(' '));
        return List.of("unit", "variable", "number", "of", "join", "when", "root", "define", "set", "setTurns", "keep",
                "load").contains(name);
    }
}
