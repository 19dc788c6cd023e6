import java.util.ArrayList;
import java.util.List;

/**
 * Every call with arguments at and just beyond the ends of their ranges, in all combinations: what is allowed throws
 * nothing, what is not throws what is named first, and leaves an object like its twin that was not called so.
 */
public final class RefusalTest {
    private static final Dues DUES = new Dues("RefusalTest");

    /** A range of an argument, and what is thrown beyond it. */
    private enum Range {
        KILOMETRE(0, 19, true), LAYER(0, 9, true),
        SIZE(1, 3, false), MANY(1, 1000, false), HEIGHT(0, 9, false), PERIOD(0, 60, false),
        MINUTES(1, 60, false), ELEVATION(0, 3, false), RULE(1, 1000, false), WHAT(0, 3, false);

        private final int least, greatest;
        private final boolean isPlace;

        Range(int least, int greatest, boolean isPlace) {
            this.least = least;
            this.greatest = greatest;
            this.isPlace = isPlace;
        }

        int[] edges() {
            return new int[] {least, greatest, least - 1, greatest + 1};
        }

        boolean has(int value) {
            return value >= least && value <= greatest;
        }
    }

    private static final String OUTSIDE = "throws.IndexOutOfBoundsException";
    private static final String ILLEGAL = "throws.IllegalArgumentException";
    private static final String STATE = "throws.IllegalStateException";

    /** Nothing yet: no drops, no hills, no gauges, no drift, no scan. */
    private static final String[] NEW = {};

    /** Something of everything, and a gauge only in the kilometre 0, where it is clogged. */
    private static final String[] BUSY = {
        "drops(0, 9, 1, 10)", "drops(19, 5, 2, 10)", "drops(5, 0, 3, 10)", "drops(9, 6, 1, 900)", "melt(4)", "hill(15, 1)",
        "hill(19, 9)", "gauge(0, true)", "clog(0, true)", "rule(20)", "scan(0)", "drift(7, false)", "pass(9)", "scan(1)",
        "drops(0, 0, 1, 7)", "pass(1)", "drops(12, 9, 3, 4)",
    };

    public static void main(String[] args) {
        refusals("drops", "", true, Range.KILOMETRE, Range.LAYER, Range.SIZE, Range.MANY);
        refusals("melt", "", false, Range.LAYER);
        refusals("hill", "", false, Range.KILOMETRE, Range.HEIGHT);
        refusals("drift", ", true", false, Range.PERIOD);
        refusals("drift", ", false", false, Range.PERIOD);
        refusals("gauge", ", true", false, Range.KILOMETRE);
        refusals("gauge", ", false", false, Range.KILOMETRE);
        refusals("pass", "", true, Range.MINUTES);
        refusals("scan", "", true, Range.ELEVATION);
        refusals("rule", "", false, Range.RULE);
        refusals("count", "", false, Range.KILOMETRE, Range.LAYER, Range.SIZE);
        refusals("phase", "", false, Range.LAYER);
        refusals("echo", "", false, Range.KILOMETRE, Range.ELEVATION);
        refusals("seen", "", false, Range.KILOMETRE, Range.ELEVATION);
        refusals("rain", "", false, Range.KILOMETRE);
        refusals("rainBy", "", false, Range.KILOMETRE, Range.RULE);
        refusals("ground", "", false, Range.KILOMETRE);
        refusals("groundAnew", "", false, Range.KILOMETRE);
        refusals("water", "", false, Range.WHAT);
        withoutGauge("clog", ", true");
        withoutGauge("clog", ", false");
        withoutGauge("collected", "");
        motionBelowTwoScans();
        DUES.end();
    }

    /** Full of drops, scans and minutes: 100, 30 and 600. */
    private static String[] full() {
        List<String> calls = new ArrayList<>(List.of(BUSY));
        for (int i = 0; i < 94; i++) {
            calls.add("drops(" + i % 20 + ", " + i % 10 + ", " + (i % 3 + 1) + ", " + (i + 1) + ")");
            if (i % 3 == 0 && i < 84) {
                calls.add("scan(" + i % 4 + ")");
            }
            if (i % 9 == 8) {
                calls.add("pass(59)");
            }
        }
        return calls.toArray(new String[0]);
    }

    private static void refusals(String name, String rest, boolean isLimited, Range... ranges) {
        String[][] setups = {NEW, BUSY, full()};
        for (int setup = 0; setup < setups.length; setup++) {
            boolean isFull = isLimited && setup == 2;
            Twins twins = new Twins(setups[setup]);
            int[] values = new int[ranges.length];
            combine(twins, name, values, rest, isFull, ranges, 0);
            farBeyond(twins, name, values, rest, isFull, ranges);
        }
    }

    /** Goes through all combinations of the edges of all arguments. */
    private static void combine(Twins twins, String name, int[] values, String rest, boolean isFull, Range[] ranges, int at) {
        if (at == ranges.length) {
            one(twins, name, values, rest, isFull, ranges);
            return;
        }
        for (int value : ranges[at].edges()) {
            values[at] = value;
            combine(twins, name, values, rest, isFull, ranges, at + 1);
        }
    }

    /** The least and the greatest int for each argument, alone. */
    private static void farBeyond(Twins twins, String name, int[] values, String rest, boolean isFull, Range[] ranges) {
        for (int i = 0; i < ranges.length; i++) {
            for (int j = 0; j < ranges.length; j++) {
                values[j] = ranges[j].least;
            }
            values[i] = Integer.MIN_VALUE;
            one(twins, name, values, rest, isFull, ranges);
            values[i] = Integer.MAX_VALUE;
            one(twins, name, values, rest, isFull, ranges);
        }
    }

    private static void one(Twins twins, String name, int[] values, String rest, boolean isFull, Range[] ranges) {
        StringBuilder given = new StringBuilder();
        String due = isFull ? STATE : "nothing";
        for (int i = 0; i < values.length; i++) {
            given.append(i == 0 ? "" : ", ").append(values[i]);
            if (!ranges[i].has(values[i]) && !due.equals(OUTSIDE)) {
                due = ranges[i].isPlace ? OUTSIDE : ILLEGAL;
            }
        }
        twins.compare(name + "(" + given + rest + ")", due);
    }

    private static void withoutGauge(String name, String rest) {
        for (String[] setup : new String[][] {NEW, BUSY, full()}) {
            Twins twins = new Twins(setup);
            for (int value : Range.KILOMETRE.edges()) {
                boolean hasGauge = setup.length > 0 && value == 0;
                twins.compare(name + "(" + value + rest + ")", hasGauge ? "nothing" : OUTSIDE);
            }
        }
    }

    private static void motionBelowTwoScans() {
        new Twins(NEW).compare("motion()", STATE);
        new Twins(new String[] {"drops(3, 0, 1, 40)", "scan(0)"}).compare("motion()", STATE);
        new Twins(new String[] {"drops(3, 0, 1, 40)", "scan(0)", "scan(1)"}).compare("motion()", "nothing");
        new Twins(BUSY).compare("motion()", "nothing");
        new Twins(full()).compare("motion()", "nothing");
    }

    /** Objects that have been called alike; some then get a call that is refused, and must go on like the others. */
    private static final class Twins {
        private final String[] setup;
        private final List<List<String>> probes = probes();
        private final List<String> untouched = new ArrayList<>();

        Twins(String[] setup) {
            this.setup = setup;
            for (List<String> probe : probes) {
                untouched.add(told(ready(), probe));
            }
        }

        private Calls ready() {
            Calls calls = new Calls();
            for (String call : setup) {
                String answer = calls.answer(call);
                if (answer.startsWith("throws")) {
                    DUES.compare("the setup's " + call, answer, "a number");
                }
            }
            return calls;
        }

        void compare(String call, String due) {
            String what = call + " after " + setup.length + " calls";
            String got = ready().answer(call);
            DUES.compare(what, got.startsWith("throws") ? got : "nothing", due);
            if (due.equals("nothing")) {
                return;
            }
            for (int i = 0; i < probes.size(); i++) {
                Calls calls = ready();
                calls.answer(call);
                String now = told(calls, probes.get(i));
                DUES.compare("what is told after " + what, now, untouched.get(i));
            }
        }

        private static String told(Calls calls, List<String> probe) {
            StringBuilder text = new StringBuilder();
            for (String call : probe) {
                text.append(call).append(' ').append(calls.answer(call)).append("; ");
            }
            return text.toString();
        }
    }

    /** Five runs of calls that bring all of an object's state to light; each is too long to go with another. */
    private static List<List<String>> probes() {
        List<String> nearCounts = new ArrayList<>();
        List<String> farCounts = new ArrayList<>();
        for (int kilometre = 0; kilometre < 20; kilometre++) {
            for (int layer = 0; layer < 10; layer++) {
                for (int size = 1; size <= 3; size++) {
                    (kilometre < 10 ? nearCounts : farCounts).add("count(" + kilometre + ", " + layer + ", " + size + ")");
                }
            }
        }
        return List.of(nearCounts, farCounts, questions(), settings(), limits());
    }

    private static List<String> questions() {
        List<String> calls = new ArrayList<>();
        for (int kilometre = 0; kilometre < 20; kilometre++) {
            for (String rest : new String[] {"0)", "1)", "2)", "3)"}) {
                calls.add("echo(" + kilometre + ", " + rest);
                calls.add("seen(" + kilometre + ", " + rest);
            }
            for (String name : new String[] {"rain", "collected", "ground", "groundAnew"}) {
                calls.add(name + "(" + kilometre + ")");
            }
            calls.add("rainBy(" + kilometre + ", 1)");
        }
        for (int what = 0; what < 4; what++) {
            calls.add("water(" + what + ")");
        }
        for (int layer = 0; layer < 10; layer++) {
            calls.add("phase(" + layer + ")");
        }
        calls.add("motion()");
        return calls;
    }

    private static List<String> settings() {
        List<String> calls = new ArrayList<>();
        // The direction of the drift is told by nothing but its way; a period of 60 at most is over by then.
        calls.addAll(List.of("drops(10, 9, 1, 11)", "drops(4, 9, 2, 13)", "scan(0)", "pass(1)", "scan(0)", "rain(4)", "rain(10)"));
        for (int i = 0; i < 6; i++) {
            calls.addAll(List.of("pass(1)", "water(1)", "water(3)", "count(10, " + (7 - i) + ", 1)", "count(9, " + (7 - i) + ", 1)"));
        }
        for (int kilometre = 0; kilometre < 20; kilometre++) {
            calls.addAll(List.of("hill(" + kilometre + ", 0)", "clog(" + kilometre + ", false)", "gauge(" + kilometre + ", true)",
                "clog(" + kilometre + ", true)"));
        }
        calls.addAll(List.of("melt(9)", "rule(1)", "drift(0, true)", "scan(0)", "scan(1)", "motion()"));
        return calls;
    }

    /** Goes up to the limits on drops, minutes and scans: a refused call has not brought them nearer. */
    private static List<String> limits() {
        List<String> calls = new ArrayList<>();
        for (int i = 0; i < 101; i++) {
            calls.add("drops(7, 1, 1, 1)");
        }
        for (int i = 0; i < 31; i++) {
            calls.add("scan(0)");
        }
        for (int i = 0; i < 10; i++) {
            calls.add("pass(59)");
        }
        for (int i = 0; i < 11; i++) {
            calls.add("pass(1)");
        }
        calls.addAll(List.of("ground(7)", "groundAnew(7)", "water(0)", "rain(7)", "motion()"));
        return calls;
    }
}
