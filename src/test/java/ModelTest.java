import java.lang.reflect.Method;
import java.util.ArrayList;
import java.util.Comparator;
import java.util.List;
import java.util.Random;

/** Long runs of chance calls (always the same ones) on SungHarvest and on the Model: all answers are to be alike. */
public final class ModelTest {
    private static final int RUNS = 400;
    private static final int CALLS = 500;
    private static final int TEXTS = 20000;
    private static final int[] ODD = {
        -2, -1, 0, 1, 9, 10, 12, 13, 20, 21, 59, 60, 61, 99, 100, 255, 256, -100,
        Integer.MAX_VALUE, Integer.MIN_VALUE, Integer.MAX_VALUE - 1
    };
    private static final Due due = new Due();
    private static Random chance;

    public static void main(String[] args) throws Exception {
        for (int n = 0; n < TEXTS && due.wrong() < 20; n++) {
            chance = new Random(n);
            text(new SungHarvest(), new Model());
        }
        List<Method> methods = new ArrayList<>();
        for (Method m : SungHarvest.class.getDeclaredMethods()) {
            if (java.lang.reflect.Modifier.isPublic(m.getModifiers())) {
                methods.add(m);
            }
        }
        methods.sort(Comparator.comparing(Method::getName));
        due.is("the face's methods", methods.size(), 33);
        for (int run = 0; run < RUNS && due.wrong() < 20; run++) {
            run(run, methods);
        }
        due.end("the model");
    }

    private static void run(int run, List<Method> methods) throws Exception {
        chance = new Random(1000000 + run);
        SungHarvest x = new SungHarvest();
        Model model = new Model();
        int wrong = due.wrong();
        if (run % 4 != 0) {
            for (int n = chance.nextInt(7); n > 0; n--) {
                call(run, x, model, method(methods, "singer"), false);
            }
        }
        for (int n = 0; n < CALLS && due.wrong() == wrong; n++) {
            Method m = methods.get(chance.nextInt(methods.size()));
            if (m.getName().equals("village") && chance.nextInt(4) != 0) {
                text(x, model);
            } else {
                call(run, x, model, m, chance.nextInt(8) == 0);
            }
        }
    }

    private static Method method(List<Method> methods, String name) {
        for (Method m : methods) {
            if (m.getName().equals(name)) {
                return m;
            }
        }
        return methods.get(0);
    }

    private static void call(int run, SungHarvest x, Model model, Method m, boolean odd) throws Exception {
        Class<?>[] types = m.getParameterTypes();
        Object[] given = new Object[types.length];
        StringBuilder told = new StringBuilder("run " + run + ": " + m.getName() + "(");
        for (int i = 0; i < types.length; i++) {
            int n = odd && chance.nextInt(2) == 0 ? ODD[chance.nextInt(ODD.length)] : usual(m.getName(), i, model);
            given[i] = types[i] == boolean.class ? (Object) (chance.nextInt(3) == 0)
                : types[i] == long.class ? (Object) (chance.nextInt(3) == 0 ? chance.nextLong() : (long) n) : (Object) n;
            told.append(i == 0 ? "" : ", ").append(given[i]);
        }
        Method twin = Model.class.getDeclaredMethod(m.getName(), types);
        long got = ((Number) m.invoke(x, given)).longValue();
        due.is(told.append(")").toString(), got, ((Number) twin.invoke(model, given)).longValue());
    }

    private static int usual(String name, int i, Model model) {
        int singer = chance.nextInt(Math.max(1, model.now.singers.size()));
        switch (name + i) {
            case "singer0": return chance.nextInt(7);
            case "singer2": case "choir0": return chance.nextInt(256) & chance.nextInt(256);
            case "singer3": case "sacks1": case "book1": return chance.nextInt(100);
            case "of1": return chance.nextInt(9);
            case "set1": case "can1": case "odds2": case "mean1": case "ends0": case "choir1": return chance.nextInt(2);
            case "set2": return chance.nextInt(chance.nextBoolean() ? 256 : 100);
            case "part0": case "sacks0": case "teach2": case "odds0": case "book0": return chance.nextInt(8);
            case "part1": case "count0": case "taken1": return chance.nextInt(7);
            case "row1": return chance.nextInt(4);
            case "pass0": return chance.nextInt(chance.nextInt(5) == 0 ? 61 : 5);
            case "on0": case "mean0": return chance.nextInt(61);
            case "on1": return chance.nextInt(3) == 0 ? chance.nextInt(2) : 10 * (1 + chance.nextInt(2)) + singer;
            case "see1": return chance.nextInt(13);
            case "see2": return chance.nextInt(3) == 0 ? chance.nextInt(100) : memorySoon(singer, model);
            case "odds1": return chance.nextInt(21);
            case "plan0": return chance.nextInt(16) == 0 ? -1 : chance.nextInt(4);
            case "act1": return chance.nextInt(3);
            case "act2": return chance.nextInt(9) == 0 ? chance.nextInt() : chance.nextInt(100);
            case "feed0": return chance.nextInt(128);
            case "tape0": case "item0": case "read0": case "shift0": case "shift2": case "judge0": return chance.nextInt(3);
            case "tape1": return chance.nextInt(5) * chance.nextInt(2);
            case "tape2": return chance.nextInt(20);
            case "shift4": return chance.nextInt(6);
            case "see0": return chance.nextInt(5) == 0 ? -1 : singer;
            case "of0": case "set0": case "away0": case "teach0": case "teach1": case "row0":
            case "can0": case "plan1": case "act0": case "taken0": return singer;
            default: return chance.nextInt(10);
        }
    }

    /** What one's MEMORY comes to soon, so that what is SEEN is often so. */
    private static int memorySoon(int singer, Model model) {
        if (singer >= model.now.singers.size()) {
            return 0;
        }
        return model.now.after(chance.nextInt(13)).singers.get(singer).memory;
    }

    private static void text(SungHarvest x, Model model) {
        StringBuilder made = new StringBuilder();
        for (int n = 1 + chance.nextInt(chance.nextInt(8) == 0 ? 11 : 4); n > 0; n--) {
            made.append(made.length() == 0 ? "" : ";").append(clause());
        }
        for (int n = chance.nextInt(5) - 2; n > 0; n--) {
            int at = chance.nextInt(made.length());
            String signs = "hardeasynew 0123456789pkvnmd<=>!()&|;\u0000\u007f";
            made.setCharAt(at, signs.charAt(chance.nextInt(signs.length())));
        }
        if (chance.nextInt(6) == 0) {
            made.setLength(chance.nextInt(made.length()));
        }
        for (int i = 0; i < made.length(); i++) {
            due.is("feed", x.feed(made.charAt(i)), model.feed(made.charAt(i)));
        }
        due.is("village of '" + made + "'", x.village(), model.village());
    }

    private static String clause() {
        String n = number();
        switch (chance.nextInt(3)) {
            case 0: return "anew " + n;
            case 1: return "hard " + n + " " + e(0);
            default: return "easy " + n + " " + e(0);
        }
    }

    private static String number() {
        return "" + chance.nextInt(chance.nextBoolean() ? 10 : 100);
    }

    private static String e(int depth) {
        String e = f(depth);
        for (int n = chance.nextInt(3) - depth; n > 0; n--) {
            e += (chance.nextBoolean() ? "|" : "&") + f(depth);
        }
        return e;
    }

    private static String f(int depth) {
        int which = depth > 4 ? 9 : chance.nextInt(8);
        if (which == 0) {
            return "(" + e(depth + 1) + ")";
        }
        if (which == 1) {
            return "!" + f(depth + 1);
        }
        return "" + "pkvnmd".charAt(chance.nextInt(6)) + "<=>".charAt(chance.nextInt(3)) + chance.nextInt(11);
    }
}
