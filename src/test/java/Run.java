import java.lang.reflect.InvocationTargetException;
import java.lang.reflect.Method;
import java.util.ArrayList;
import java.util.HashMap;
import java.util.List;
import java.util.Map;

/**
 * Calls told in words on a new object, so that a run can be made twice: "singer 0 5 3 50, 3*pass 60, of 0 3".
 * "say anew 7" feeds a text sign by sign; MIN, MAX, LMIN, LMAX stand for the ends of int and long.
 */
final class Run {
    /** Nothing is promised of an object behind as many calls. */
    static final int PROMISED = 512;
    private static final Map<String, Method> FACE = new HashMap<>();

    static {
        for (Method m : SungHarvest.class.getMethods()) {
            if (m.getDeclaringClass() == SungHarvest.class) {
                FACE.put(m.getName(), m);
            }
        }
    }

    private final SungHarvest x = new SungHarvest();
    private final int most;
    private int calls;

    Run() {
        this(PROMISED);
    }

    Run(int most) {
        this.most = most;
    }

    /** Makes all calls and gives their answers. */
    List<Long> make(String words) {
        List<Long> answers = new ArrayList<>();
        for (String told : words.split(",\\s*")) {
            if (!told.isBlank()) {
                int star = told.matches("\\d+\\*.*") ? told.indexOf('*') : -1;
                int times = star < 0 ? 1 : Integer.parseInt(told.substring(0, star));
                for (int n = 0; n < times; n++) {
                    one(told.substring(star + 1), answers);
                }
            }
        }
        return answers;
    }

    private void one(String told, List<Long> answers) {
        String call = told.stripLeading();
        if (call.startsWith("say ")) {
            for (char sign : call.substring(4).toCharArray()) {
                answers.add(invoke(FACE.get("feed"), new Object[] {(int) sign}));
            }
            return;
        }
        String[] parts = call.trim().split(" ");
        Method m = FACE.get(parts[0]);
        if (m == null || m.getParameterCount() != parts.length - 1) {
            throw new IllegalStateException("no such call: " + told);
        }
        Object[] given = new Object[parts.length - 1];
        for (int i = 0; i < given.length; i++) {
            given[i] = argument(m.getParameterTypes()[i], parts[i + 1]);
        }
        answers.add(invoke(m, given));
    }

    private static Object argument(Class<?> type, String told) {
        if (type == boolean.class) {
            return told.equals("true");
        }
        long n;
        switch (told) {
            case "MIN": n = Integer.MIN_VALUE; break;
            case "MAX": n = Integer.MAX_VALUE; break;
            case "LMIN": n = Long.MIN_VALUE; break;
            case "LMAX": n = Long.MAX_VALUE; break;
            default: n = Long.parseLong(told); break;
        }
        if (type == long.class) {
            return n;
        }
        return Math.toIntExact(n);
    }

    private long invoke(Method m, Object[] given) {
        calls++;
        if (calls > most) {
            throw new IllegalStateException("more than " + most + " calls on one object");
        }
        try {
            return ((Number) m.invoke(x, given)).longValue();
        } catch (InvocationTargetException | IllegalAccessException e) {
            throw new IllegalStateException(m.getName() + " threw", e);
        }
    }
}
