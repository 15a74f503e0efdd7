import java.lang.reflect.Method;
import java.util.Arrays;
import java.util.HashMap;
import java.util.Map;
import java.util.stream.Collectors;

/** An EachUndoes whose calls are told by name, so that a wrong answer tells which call it was. */
final class Village {
    /** What a later call answers is free, so a test that asks more has to make another village. */
    private static final int MOST_CALLS = 512;
    private static final Map<String, Method> FACE = face();

    /** A thing that is never ahead: to undo it is against the law, so it only takes room. */
    private static final int NEVER_AHEAD = 23;

    private final EachUndoes asked = new EachUndoes();
    private final Check check;
    private int calls;

    /** The deeds as a text, and the undoings as pairs of a person and a thing. */
    Village(Check check, String deeds, int... undoings) {
        this.check = check;
        types(deeds);
        for (int i = 0; i + 1 < undoings.length; i += 2) {
            answer("undoes", undoings[i], undoings[i + 1]);
        }
    }

    private static Map<String, Method> face() {
        Map<String, Method> face = new HashMap<>();
        for (Method method : EachUndoes.class.getMethods()) {
            if (method.getDeclaringClass() == EachUndoes.class) {
                face.put(method.getName(), method);
            }
        }
        return face;
    }

    int callsLeft() {
        return MOST_CALLS - calls;
    }

    static String told(String call, int... given) {
        return call + Arrays.stream(given).mapToObj(String::valueOf).collect(Collectors.joining(", ", "(", ")"));
    }

    long answer(String call, int... given) {
        calls++;
        if (calls > MOST_CALLS) {
            throw new IllegalStateException("the test makes more calls than the document tells of");
        }
        try {
            Object answer = FACE.get(call).invoke(asked, Arrays.stream(given).boxed().toArray());
            return ((Number) answer).longValue();
        } catch (ReflectiveOperationException e) {
            throw new IllegalStateException(told(call, given) + " does not answer", e);
        }
    }

    Village due(long want, String call, int... given) {
        long got = answer(call, given);
        check.due("call " + calls + ", " + told(call, given), got, want);
        return this;
    }

    Village types(String text) {
        for (int i = 0; i < text.length(); i++) {
            answer("type", text.charAt(i));
        }
        return this;
    }

    /** So many more undoings that are against the law. */
    Village fills(int many) {
        for (int i = 0; i < many; i++) {
            answer("undoes", 0, NEVER_AHEAD);
        }
        return this;
    }

    /** A sheet made anew, with these items. */
    Village sheet(int s, int form, int... items) {
        answer("sheet", s, form, items.length);
        for (int i = 0; i < items.length; i++) {
            answer("lay", s, form, i, items[i]);
        }
        return this;
    }

    Village dueItems(int s, int form, int... want) {
        for (int i = 0; i < want.length; i++) {
            due(want[i], "get", s, form, i);
        }
        return this;
    }
}
