import java.lang.reflect.InvocationTargetException;
import java.lang.reflect.Method;
import java.util.Arrays;
import java.util.LinkedHashSet;
import java.util.Map;
import java.util.Set;
import java.util.regex.Matcher;
import java.util.regex.Pattern;

/** A new object and the calls on it, each written with the answer that is due: "talk(0, 48, 9) = 0". */
final class Run {
    private static final int MOST_CALLS = 512;
    private static final Pattern LINE = Pattern.compile("(.*\\)) = (-?\\w+)");
    private static final Pattern CALL = Pattern.compile("(\\w+)\\(([^()]*)\\)");
    // Written out, so that a wrong constant of the program is seen.
    private static final Map<String, Integer> ERRORS = Map.of("INVALID_ARGUMENT", -1000001,
        "NOT_POSSIBLE", -1000002, "LIMIT_REACHED", -1000003, "NOT_FOUND", -1000004);

    private final OnlineRooms rooms = new OnlineRooms();
    private final Check check;
    private int calls;
    private String text = "";

    Run(Check check) {
        this.check = check;
    }

    Run due(String... lines) {
        for (String line : lines) {
            Matcher matcher = LINE.matcher(line);
            if (!matcher.matches()) {
                throw new IllegalArgumentException(line);
            }
            String answer = matcher.group(2);
            due(ERRORS.containsKey(answer) ? ERRORS.get(answer) : Integer.parseInt(answer), matcher.group(1));
        }
        return this;
    }

    Run due(int want, String call, Object... values) {
        String told = String.format(call, values);
        int got = ask(told);
        check.due(told + ", call " + calls + (text.isEmpty() ? "," : ", text " + text + ","), got, want);
        return this;
    }

    /** The call with %d for an argument: INVALID_ARGUMENT is due for all that are out of its range. */
    Run invalid(String call, int from, int to) {
        for (int value : outside(from, to)) {
            due(ERRORS.get("INVALID_ARGUMENT"), call, value);
        }
        return this;
    }

    /** The text is emptied, and then typed. */
    Run write(String written) {
        ask("clearText()");
        text = written;
        for (int i = 0; i < written.length(); i++) {
            due(i + 1, "type(%d)", (int) written.charAt(i));
        }
        return this;
    }

    /** Position, reason and cause of the fault. */
    Run fault(int position, int reason, int cause) {
        return due(position, "fault(0)").due(reason, "fault(1)").due(cause, "fault(2)");
    }

    Run noFault() {
        return due("fault(0) = NOT_FOUND", "fault(1) = NOT_FOUND", "fault(2) = NOT_FOUND");
    }

    int calls() {
        return calls;
    }

    int ask(String call, Object... values) {
        String told = String.format(call, values);
        Matcher matcher = CALL.matcher(told);
        if (!matcher.matches()) {
            throw new IllegalArgumentException(told);
        }
        calls++;
        if (calls > MOST_CALLS) {
            throw new IllegalStateException("the test's own fault: more calls than an object is good for");
        }
        return call(matcher.group(1), arguments(matcher.group(2)));
    }

    private static Object[] arguments(String told) {
        return told.isEmpty() ? new Object[0]
            : Arrays.stream(told.split(", ")).map(Integer::valueOf).toArray();
    }

    private int call(String name, Object[] arguments) {
        Method method = Arrays.stream(OnlineRooms.class.getMethods())
            .filter(m -> m.getName().equals(name) && m.getParameterCount() == arguments.length)
            .findFirst().orElseThrow(() -> new IllegalArgumentException(name));
        try {
            return (Integer) method.invoke(rooms, arguments);
        } catch (IllegalAccessException e) {
            throw new IllegalStateException(e);
        } catch (InvocationTargetException e) {
            check.holds(name + Arrays.toString(arguments) + " throws " + e.getCause(), false);
            return Integer.MIN_VALUE;
        }
    }

    /** Just beside a range, far from it, and those that a shift, a byte, a char or a sign takes for its first. */
    static Set<Integer> outside(int from, int to) {
        int[] candidates = {from - 1, to + 1, -to, from + 32, from + 64, from + 256, from + 65536, from - 32, from - 64,
            from - 256, from - 65536, Integer.MIN_VALUE + from, Integer.MIN_VALUE, Integer.MAX_VALUE};
        Set<Integer> values = new LinkedHashSet<>();
        for (int value : candidates) {
            if (value < from || value > to) {
                values.add(value);
            }
        }
        return values;
    }
}
