/** Counts answers that are not as due. */
final class Check {
    interface Call {
        Object answer();
    }

    private static final Class<?> INDEX = IndexOutOfBoundsException.class;
    private static final Class<?> ARGUMENT = IllegalArgumentException.class;
    private static final Class<?> STATE = IllegalStateException.class;

    private static int asked = 0;
    private static int wrong = 0;

    private Check() { }

    static void due(String what, Object got, Object want) {
        asked++;
        if (!got.equals(want)) {
            wrong++;
            System.out.println(what + " answered " + got + ", due is " + want);
        }
    }

    static void noIndex(String what, Call call) {
        refused(what, INDEX, call);
    }

    static void noArgument(String what, Call call) {
        refused(what, ARGUMENT, call);
    }

    static void noState(String what, Call call) {
        refused(what, STATE, call);
    }

    /** The very class: an ArrayIndexOutOfBoundsException is none that the document names. */
    private static void refused(String what, Class<?> due, Call call) {
        Object got;
        try {
            got = call.answer();
        } catch (RuntimeException e) {
            got = e.getClass();
        }
        due(what, got, due);
    }

    static void end(String name) {
        System.out.println(name + ": " + asked + " answers, " + wrong + " not as due");
        if (wrong != 0 || asked == 0) {
            System.exit(1);
        }
    }
}
