import java.util.ArrayList;
import java.util.List;

/** Models told as calls: one with nothing in it, a small one, and one that is full. */
final class Models {
    static final List<String> EMPTY = List.of();
    static final List<String> SMALL = small();
    static final List<String> FULL = full();

    private Models() { }

    /** So many INPUTS without UNIT; the part k is OF the variable k. */
    static Waterline withVariables(int many) {
        Waterline w = new Waterline();
        for (int k = 0; k < many; k++) {
            w.variable(0);
            w.of(k);
        }
        return w;
    }

    /** The variable 1 is round and has a FORMULA, the variable 2 has a FAULT; there is room for more. */
    private static List<String> small() {
        List<String> calls = new ArrayList<>(List.of("unit 1 0 0 0 1000 1", "variable 0", "variable 0", "variable 1"));
        calls.addAll(List.of("of 0", "of 1", "number 500 0", "join 4 1 2", "join 2 0 3"));
        calls.addAll(List.of("set 0 7000", "set 1 -40", "set 2 9", "define 1 4", "define 2 3", "setTurns 6 70"));
        calls.addAll(List.of("keep 1", "set 0 8000"));
        return calls;
    }

    /** The parts 0 to 15 are OF the variables 0 to 15. */
    private static List<String> full() {
        List<String> calls = new ArrayList<>(List.of("unit 1 0 0 0 1000 1", "unit 0 1 0 0 60 1",
                "unit 1 -1 0 0 1000 3600", "unit 3 -3 3 -3 1 1", "unit -3 3 -3 3 1 100000", "unit 0 0 0 0 100000 1",
                "unit 0 0 0 0 1 100000", "unit 0 0 0 0 100000 100000", "unit 2 0 0 0 1 1", "unit 0 0 0 1 7 3",
                "unit 0 0 0 -1 3 7"));
        for (int unit : new int[] {1, 2, 3, 0, 0, 0, 0, 6, 7, 8, 9, 4, 5, 10, 11, 0}) {
            calls.add("variable " + unit);
        }
        for (int v = 0; v < 16; v++) {
            calls.add("of " + v);
            calls.add("set " + v + " " + (v * 1700 - 3400));
        }
        calls.addAll(List.of("join 5 0 1", "number 500 0", "number 1000 0", "join 4 17 4", "join 2 19 5",
                "join 4 17 19", "join 2 21 3", "join 5 18 15", "join 2 0 1", "root 0", "join 4 24 25",
                "when 3 14 14", "when 15 17 18", "join 6 3 15", "join 7 3 15", "join 3 3 15"));
        for (int part = 32; part < 60; part++) {
            calls.add("join 2 " + (part - 1) + " 18");
        }
        calls.addAll(List.of("keep 0", "set 0 90000", "set 1 30000", "set 3 4000", "keep 1", "set 15 0", "keep 2"));
        calls.addAll(List.of("define 2 16", "define 4 20", "define 5 22", "define 6 23", "define 9 59", "define 10 24",
                "define 11 26", "define 12 18", "define 14 27", "setTurns 3 90", "keep 3", "set 8 -1000000000"));
        return calls;
    }

    /** Asks for all that a model holds, and at last for what lies hidden; it is another one behind that. */
    static List<String> probes() {
        List<String> calls = new ArrayList<>(List.of("units", "variables", "parts", "faults", "circles", "digest"));
        for (int v = 0; v < 16; v++) {
            for (int place = 0; place < 4; place++) {
                calls.add("amountOf " + place + " " + v);
            }
            calls.add("amountIn " + v + " 0");
        }
        calls.addAll(List.of("unit 0 0 0 0 5 1", "variable 0", "number 5 0", "of 0", "digest", "setTurns 0 100", "digest"));
        for (int v = 0; v < 16; v++) {
            calls.add("define " + v + " -1");
        }
        askForAmounts(calls);
        for (int place = 0; place < 4; place++) {
            calls.add("load " + place);
            askForAmounts(calls);
        }
        return calls;
    }

    private static void askForAmounts(List<String> calls) {
        for (int v = 0; v < 16; v++) {
            calls.add("amount " + v);
        }
    }
}
