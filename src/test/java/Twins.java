import java.lang.reflect.Method;
import java.util.Arrays;
import java.util.HashMap;
import java.util.Map;
import java.util.Set;
import java.util.function.Supplier;

/**
 * Pairs of objects that were made by the same calls. One of them is asked what is to be refused; whatever can be asked
 * then, down to each DEED of the SLICE and of the kept ones, must be answered by both alike.
 */
final class Twins {
    private static final int[] REFUSALS = {PeelReadings.BAD, PeelReadings.FULL, PeelReadings.STATE, PeelReadings.SPENT,
        PeelReadings.FINDING};
    private static final Map<String, Method> FACE = new HashMap<>();

    static {
        for (Method method : PeelReadings.class.getMethods()) {
            if (method.getDeclaringClass() == PeelReadings.class) {
                FACE.put(method.getName(), method);
            }
        }
    }

    private final String state;
    private final Supplier<PeelReadings> making;

    Twins(String state, Supplier<PeelReadings> making) {
        this.state = state;
        this.making = making;
    }

    /** The names of all calls of the face. */
    static Set<String> calls() {
        return FACE.keySet();
    }

    static long ask(PeelReadings x, String call, int... arguments) {
        try {
            Object[] boxed = Arrays.stream(arguments).boxed().toArray();
            return ((Number) FACE.get(call).invoke(x, boxed)).longValue();
        } catch (ReflectiveOperationException thrown) {
            throw new IllegalStateException(call + Arrays.toString(arguments), thrown);
        }
    }

    void bad(String call, int... arguments) {
        refused(PeelReadings.BAD, 0, call, arguments);
    }

    void state(String call, int... arguments) {
        refused(PeelReadings.STATE, 0, call, arguments);
    }

    void full(String call, int... arguments) {
        refused(PeelReadings.FULL, 0, call, arguments);
    }

    void finds(int finding, String call, int... arguments) {
        refused(PeelReadings.FINDING, finding, call, arguments);
    }

    void fits(String call, int... arguments) {
        long got = ask(making.get(), call, arguments);
        boolean isRefused = Arrays.stream(REFUSALS).anyMatch(refusal -> refusal == got);
        Check.due(name(call, arguments) + " answered " + got + ": not refused", isRefused ? 0 : 1, 1);
    }

    /** One of the arguments at both ends of its range, and beyond them, where it is BAD. */
    void range(int which, int least, int most, String call, int... arguments) {
        int[] tried = arguments.clone();
        for (int fit : new int[] {least, most}) {
            tried[which] = fit;
            fits(call, tried);
        }
        for (int bad : new int[] {least - 1, most + 1, Integer.MIN_VALUE, Integer.MAX_VALUE}) {
            tried[which] = bad;
            bad(call, tried);
        }
    }

    private String name(String call, int... arguments) {
        return state + ": " + call + Arrays.toString(arguments);
    }

    private void refused(int answer, int finding, String call, int... arguments) {
        String name = name(call, arguments);
        PeelReadings asked = making.get();
        PeelReadings left = making.get();
        Check.due(name, ask(asked, call, arguments), answer);
        Check.due(name + ": finding()", asked.finding(), finding == 0 ? left.finding() : finding);
        for (int f = 1; f <= 5; f++) {
            Check.due(name + ": findings(" + f + ")", asked.findings(f), left.findings(f) + (f == finding ? 1 : 0));
        }
        alike(name, asked, left);
    }

    private static void alike(String name, PeelReadings a, PeelReadings b) {
        Check.due(name + ": asked()", a.asked(), b.asked());
        Check.due(name + ": upper()", a.upper(), b.upper());
        Check.due(name + ": lower()", a.lower(), b.lower());
        for (int what = 0; what <= 13; what++) {
            Check.due(name + ": count(" + what + ")", a.count(what), b.count(what));
        }
        undoneAlike(name, a, b);
        for (int k = 0; k < 3; k++) {
            Check.due(name + ": on(" + k + ")", a.on(k), b.on(k));
            undoneAlike(name + ": on(" + k + ")", a, b);
        }
    }

    /** DEED by DEED back to the first. */
    private static void undoneAlike(String name, PeelReadings a, PeelReadings b) {
        Check.due(name + ": digest()", a.digest(), b.digest());
        for (int n = b.count(3) - 1; n >= 0; n--) {
            Check.due(name + ": undo(" + n + ")", a.undo(n), b.undo(n));
            Check.due(name + ": digest() at " + n, a.digest(), b.digest());
        }
    }
}
