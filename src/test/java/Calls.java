import java.lang.reflect.Method;
import java.lang.reflect.InvocationTargetException;
import java.util.HashMap;
import java.util.Map;

/** Calls told as texts, "by(0, 60, 1)", with the document's names for its refusals. */
final class Calls {
    private static final Map<String, Method> METHODS = new HashMap<>();
    private static final Map<String, Long> NAMES = new HashMap<>();

    static {
        for (Method method : BirthTenth.class.getDeclaredMethods()) {
            METHODS.put(method.getName(), method);
        }
        String[] refusals = {"NONE", "BAD", "STATE", "FULL", "-", "-", "-", "-", "-", "-", "NOTHING", "CAST", "PLACE", "SIZE"};
        for (int i = 0; i < refusals.length; i++) {
            NAMES.put(refusals[i], -1L - i);
        }
        NAMES.put("FAR_NONE", -10000001L);
        NAMES.put("FAR_BAD", -10000002L);
        NAMES.put("NO", Long.MIN_VALUE);
        NAMES.put("MAX", (long) Integer.MAX_VALUE);
        NAMES.put("MIN", (long) Integer.MIN_VALUE);
        NAMES.put("LONG_MAX", Long.MAX_VALUE);
        NAMES.put("LONG_MIN", Long.MIN_VALUE);
        NAMES.put("true", 1L);
        NAMES.put("false", 0L);
    }

    private Calls() {
    }

    static long number(String text) {
        return NAMES.containsKey(text) ? NAMES.get(text) : Long.parseLong(text);
    }

    /** The call's answer. text(..) feeds the signs of a text, days(n) lets n days go: the last answer of these. */
    static long ask(BirthTenth x, String call) {
        String name = call.substring(0, call.indexOf('('));
        String told = call.substring(call.indexOf('(') + 1, call.lastIndexOf(')'));
        long last = 0;
        if (name.equals("text")) {
            for (char sign : told.toCharArray()) {
                last = x.feed(sign);
            }
            return last;
        }
        if (name.equals("days")) {
            for (long n = number(told); n > 0; n--) {
                last = x.day();
            }
            return last;
        }
        return invoke(x, METHODS.get(name), told.isEmpty() ? new String[0] : told.split(", "));
    }

    private static long invoke(BirthTenth x, Method method, String[] told) {
        Class<?>[] types = method.getParameterTypes();
        Object[] arguments = new Object[types.length];
        if (told.length != types.length) {
            throw new IllegalArgumentException(method.getName() + " takes " + types.length);
        }
        for (int i = 0; i < types.length; i++) {
            long n = number(told[i]);
            arguments[i] = types[i] == boolean.class ? (Object) (n != 0) : types[i] == long.class ? (Object) n : (Object) (int) n;
        }
        try {
            return ((Number) method.invoke(x, arguments)).longValue();
        } catch (IllegalAccessException | InvocationTargetException e) {
            throw new IllegalStateException(method.getName(), e);
        }
    }

    /** Each call in its order; what is due stands behind " = ". */
    static void run(Check check, String label, BirthTenth x, String... calls) {
        for (String call : calls) {
            int at = call.lastIndexOf(" = ");
            // A text may hold an = of its own, but no blanks around it.
            long got = ask(x, at < 0 ? call : call.substring(0, at));
            if (at >= 0) {
                check.due(label + ": " + call.substring(0, at), got, number(call.substring(at + 3)));
            }
        }
    }

    static BirthTenth made(String... calls) {
        BirthTenth x = new BirthTenth();
        for (String call : calls) {
            ask(x, call);
        }
        return x;
    }
}
