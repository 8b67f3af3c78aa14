import java.lang.reflect.InvocationTargetException;
import java.lang.reflect.Method;
import java.util.HashMap;
import java.util.Map;

/**
 * A run of calls on one new object, written as the document writes them: "shell(60, 6, 11) = 0". A row
 * without an answer is only made. Beside numbers there may stand MIN and MAX (of an int), NONE, BAD,
 * STATE, FULL, NO, NO+1, NO+2, NEVER.
 */
final class Run {
    private static final Map<String, Method> METHODS = new HashMap<>();
    private static final int MOST_CALLS = 512;

    static {
        for (Method m : DrumWorld.class.getMethods()) {
            if (m.getDeclaringClass() == DrumWorld.class) {
                METHODS.put(m.getName(), m);
            }
        }
    }

    final DrumWorld x = new DrumWorld();
    private final Check check;
    private int calls;

    Run(Check check, String... rows) {
        this.check = check;
        rows(rows);
    }

    Run rows(String... rows) {
        for (String row : rows) {
            int sign = row.indexOf(" = ");
            if (sign < 0) {
                answer(row);
            } else {
                due(row.substring(0, sign), number(row.substring(sign + 3)));
            }
        }
        return this;
    }

    /** The same answer for each of these calls. */
    Run all(long want, String... calls) {
        for (String call : calls) {
            due(call, want);
        }
        return this;
    }

    void due(String call, long want) {
        check.due(call, answer(call), want);
    }

    void due(String call, long got, long want) {
        check.due(call, got, want);
    }

    Run tape(String letters) {
        calls += (letters.length() + 7) / 8;
        Check.feed(x, letters);
        return this;
    }

    /** A text that is read, and THE RULE from now on. */
    Run rule(String letters) {
        tape(letters);
        return rows("force(" + answer("text()") + ")");
    }

    Run ints(int sheet, int... numbers) {
        calls += 1 + numbers.length;
        Check.ints(x, sheet, numbers);
        return this;
    }

    long answer(String call) {
        calls++;
        if (calls > MOST_CALLS) {
            throw new IllegalStateException("a run has " + MOST_CALLS + " calls at most");
        }
        int open = call.indexOf('(');
        Method method = METHODS.get(call.substring(0, open));
        String inside = call.substring(open + 1, call.length() - 1);
        String[] words = inside.isEmpty() ? new String[0] : inside.split(", ");
        Object[] numbers = new Object[words.length];
        for (int i = 0; i < words.length; i++) {
            long number = number(words[i]);
            if (method.getParameterTypes()[i] == long.class) {
                numbers[i] = number;
            } else {
                numbers[i] = (int) number;
            }
        }
        try {
            return ((Number) method.invoke(x, numbers)).longValue();
        } catch (InvocationTargetException e) {
            throw new IllegalStateException(call + " threw", e.getCause());
        } catch (IllegalAccessException e) {
            throw new IllegalStateException(call, e);
        }
    }

    private static long number(String word) {
        switch (word) {
            case "MIN": return Integer.MIN_VALUE;
            case "MAX": return Integer.MAX_VALUE;
            case "NONE": return -1;
            case "BAD": return -2;
            case "STATE": return -3;
            case "FULL": return -4;
            case "NO": return -4611686018427387904L;
            case "NO+1": return -4611686018427387903L;
            case "NO+2": return -4611686018427387902L;
            case "NEVER": return 1000000000;
            default: return Long.parseLong(word);
        }
    }
}
