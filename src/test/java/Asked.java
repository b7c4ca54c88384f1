import java.lang.reflect.Method;
import java.util.HashMap;
import java.util.Map;

/** A LifeGrants whose calls are written as texts, and counted: it is used for 512 at most. */
final class Asked {
    static final int MOST_CALLS = 512;

    private static final Map<String, Method> FACE = face();

    private final LifeGrants x = new LifeGrants();
    private final Checks checks;
    private int calls;

    Asked(Checks checks) {
        this.checks = checks;
    }

    private static Map<String, Method> face() {
        Map<String, Method> face = new HashMap<>();
        for (Method method : LifeGrants.class.getDeclaredMethods()) {
            face.put(method.getName(), method);
        }
        return face;
    }

    /** Does a call, such as "has(0, 0, 40, MAX)": MIN and MAX are the least and the greatest number. */
    int call(String call) {
        Method method = FACE.get(call.substring(0, call.indexOf('(')));
        String inside = call.substring(call.indexOf('(') + 1, call.length() - 1);
        String[] words = inside.isEmpty() ? new String[0] : inside.split(", *");
        Object[] numbers = new Object[words.length];
        for (int i = 0; i < words.length; i++) {
            boolean isLong = method.getParameterTypes()[i] == long.class;
            numbers[i] = isLong ? (Object) wide(words[i]) : (Object) narrow(words[i]);
        }
        if (++calls > MOST_CALLS) {
            throw new IllegalStateException("the test calls one object too often: " + call);
        }
        try {
            return (int) method.invoke(x, numbers);
        } catch (ReflectiveOperationException e) {
            throw new IllegalStateException(call, e);
        }
    }

    private static int narrow(String word) {
        switch (word) {
            case "MIN": return Integer.MIN_VALUE;
            case "MAX": return Integer.MAX_VALUE;
            default: return Integer.parseInt(word);
        }
    }

    private static long wide(String word) {
        switch (word) {
            case "MIN": return Long.MIN_VALUE;
            case "MAX": return Long.MAX_VALUE;
            default: return Long.decode(word);
        }
    }

    Asked due(String call, int want) {
        checks.due(call, call(call), want);
        return this;
    }

    /** Calls that only make what a check needs: none may be refused. */
    Asked does(String... made) {
        for (String call : made) {
            checks.due(call + " is taken", call(call) >= 0 ? 1 : 0, 1);
        }
        return this;
    }

    Asked feed(String text) {
        for (int from = 0; from < text.length(); from += 8) {
            String part = text.substring(from, Math.min(text.length(), from + 8));
            long w = 0;
            for (int i = 0; i < part.length(); i++) {
                w = w << 8 | part.charAt(i) & 255;
            }
            call("feed(" + w + ", " + part.length() + ")");
        }
        return this;
    }

    Asked grant(String text, int want) {
        feed(text);
        checks.due("grant() of '" + text + "'", call("grant()"), want);
        return this;
    }

    /** HAS in the YEARS from .. to (of many the first, one between, the last): these PERSONS by that CLAUSE. */
    Asked has(int grant, int course, int from, int to, int persons, int clause) {
        int step = Math.max(1, (to - from + 1) / 2);
        for (int year = from; year <= to; year += step) {
            hasIn(grant, course, year, persons, clause);
        }
        return (to - from) % step == 0 ? this : hasIn(grant, course, to, persons, clause);
    }

    private Asked hasIn(int grant, int course, int year, int persons, int clause) {
        String call = "has(" + grant + ", " + course + ", " + year;
        return due(call + ", 0)", persons).due(call + ", 1)", clause);
    }

    int callsLeft() {
        return MOST_CALLS - calls;
    }
}
