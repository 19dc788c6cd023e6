import java.lang.reflect.InvocationTargetException;
import java.lang.reflect.Method;
import java.util.Arrays;
import java.util.HashMap;
import java.util.Map;

/** Runs of as many mixed calls as are promised, each answered by the class and by the model. The runs are the same every time. */
public final class ModelTest {
    private static final int RUNS = 300;
    /** With the 44 questions of the balance these are the 512 calls that the document promises. */
    private static final int CALLS = 468;
    private static final Dues DUES = new Dues("ModelTest");
    private static final String[] NAMES = {
        "drops", "drops", "drops", "drops", "melt", "hill", "drift", "gauge", "gauge", "clog", "clog", "pass", "pass", "pass",
        "scan", "scan", "rule", "count", "phase", "echo", "seen", "seen", "rain", "rainBy", "motion", "collected",
        "ground", "groundAnew", "groundAnew", "water",
    };

    private static final Map<String, Method> OF_CLASS = methodsOf(Brightband.class);
    private static final Map<String, Method> OF_MODEL = methodsOf(Model.class);
    private static long seed;

    public static void main(String[] args) {
        for (int run = 0; run < RUNS; run++) {
            seed = run;
            play(run);
        }
        DUES.end();
    }

    private static void play(int run) {
        Brightband x = new Brightband();
        Model y = new Model();
        // Some runs crowd drops, passes and scans into few kilometres, others spread them.
        int width = run % 3 == 0 ? 5 : 20;
        int mostMinutes = run % 4 == 0 ? 60 : 3;
        for (int i = 0; i < CALLS; i++) {
            String name = NAMES[below(NAMES.length)];
            Object[] given = argumentsOf(name, width, mostMinutes);
            String what = "run " + run + ", call " + i + ": " + name + Arrays.toString(given);
            DUES.compare(what, answer(OF_CLASS, x, name, given), answer(OF_MODEL, y, name, given));
        }
        balance(run, x);
    }

    private static void balance(int run, Brightband x) {
        DUES.compare("balance of run " + run, "" + (x.water(1) + x.water(2) + x.water(3)), "" + x.water(0));
        for (int kilometre = 0; kilometre < 20; kilometre++) {
            DUES.compare("ground of run " + run, "" + x.groundAnew(kilometre), "" + x.ground(kilometre));
        }
    }

    private static int below(int bound) {
        seed = seed * 6364136223846793005L + 1442695040888963407L;
        return (int) Math.floorMod(seed >>> 33, (long) bound);
    }

    /** A number in the range, or now and then one just outside of it. */
    private static int about(int least, int most) {
        int chance = below(60);
        return chance == 0 ? least - 1 : chance == 1 ? most + 1 : least + below(most - least + 1);
    }

    private static Object[] argumentsOf(String name, int width, int mostMinutes) {
        int kilometre = below(4) == 0 ? about(0, 19) : about(0, width - 1);
        switch (name) {
            case "drops": return new Object[] {kilometre, about(0, 9), about(1, 3), below(8) == 0 ? about(1, 1000) : about(1, 40)};
            case "melt": case "phase": return new Object[] {about(0, 9)};
            case "hill": return new Object[] {kilometre, below(3) == 0 ? about(0, 9) : 0};
            case "drift": return new Object[] {below(2) == 0 ? about(0, 60) : about(0, 3), below(2) == 0};
            case "gauge": return new Object[] {kilometre, below(5) != 0};
            case "clog": return new Object[] {kilometre, below(2) == 0};
            case "pass": return new Object[] {below(30) == 0 ? about(1, 60) : about(1, mostMinutes)};
            case "scan": return new Object[] {about(0, 3)};
            case "rule": return new Object[] {about(1, 1000)};
            case "count": return new Object[] {kilometre, about(0, 9), about(1, 3)};
            case "echo": case "seen": return new Object[] {kilometre, about(0, 3)};
            case "rainBy": return new Object[] {kilometre, about(1, 1000)};
            case "motion": return new Object[] {};
            case "water": return new Object[] {about(0, 3)};
            default: return new Object[] {kilometre};
        }
    }

    private static Map<String, Method> methodsOf(Class<?> type) {
        Map<String, Method> methods = new HashMap<>();
        for (Method method : type.getDeclaredMethods()) {
            if (java.lang.reflect.Modifier.isPublic(method.getModifiers())) {
                methods.put(method.getName(), method);
            }
        }
        return methods;
    }

    private static String answer(Map<String, Method> methods, Object target, String name, Object[] given) {
        try {
            return String.valueOf(methods.get(name).invoke(target, given));
        } catch (InvocationTargetException e) {
            return "throws." + e.getCause().getClass().getSimpleName();
        } catch (IllegalAccessException e) {
            return "no access";
        }
    }
}
