import java.lang.reflect.InvocationTargetException;
import java.lang.reflect.Method;
import java.util.ArrayList;
import java.util.HashMap;
import java.util.List;
import java.util.Map;

/** Calls told as texts, such as "define 3 17", made on the program or on the reference. */
final class Calls {
    private static final Map<String, Method> METHODS = new HashMap<>();

    private Calls() { }

    /** What the call answers, or the very class that it throws: "throws.IllegalStateException". */
    static Object answer(Object model, String call) {
        String[] words = call.split(" ");
        Object[] arguments = new Object[words.length - 1];
        for (int k = 1; k < words.length; k++) {
            arguments[k - 1] = Integer.valueOf(words[k]);
        }
        try {
            return method(model, words[0]).invoke(model, arguments);
        } catch (InvocationTargetException e) {
            return "throws." + e.getCause().getClass().getSimpleName();
        } catch (IllegalAccessException e) {
            throw new IllegalStateException(e);
        }
    }

    private static Method method(Object model, String name) {
        String key = model.getClass().getName() + "." + name;
        if (!METHODS.containsKey(key)) {
            for (Method method : model.getClass().getDeclaredMethods()) {
                if (method.getName().equals(name)) {
                    METHODS.put(key, method);
                }
            }
        }
        return METHODS.get(key);
    }

    /** Makes them all; each has to answer, none to throw. */
    static <M> M made(M model, List<String> calls) {
        for (String call : calls) {
            Object got = answer(model, call);
            if (got instanceof String) {
                throw new IllegalStateException(call + " " + got);
            }
        }
        return model;
    }

    static List<String> answers(Object model, List<String> calls) {
        List<String> found = new ArrayList<>();
        for (String call : calls) {
            found.add(call + " = " + answer(model, call));
        }
        return found;
    }
}
