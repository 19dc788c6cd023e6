import java.util.ArrayList;
import java.util.List;

/**
 * The edges that the document names for the air, the ground and the gauges: promises 1 to 8, 11, 12 and 18 to 21.
 * Above each test stands the sentence of the document that it is for.
 */
public final class AirEdgeTest {
    private static final Dues DUES = new Dues("AirEdgeTest");

    public static void main(String[] args) {
        beginsInTheMinuteZero();
        beginsWithNothingInTheAir();
        beginsWithoutHillsGaugesDriftAndScans();
        kilometresAndLayers();
        waterOfADrop();
        meltsInFiveAtFirst();
        meltsInTheLowestAndTheHighest();
        fallsByPhaseAndSize();
        isOnTheGroundOfThatKilometre();
        noDrift();
        driftByThePeriod();
        driftAfterTheFall();
        driftOfAllDrops();
        hasLeft();
        collectsOnceItIsPutUp();
        halfRoundedDown();
        halfOfAllTogether();
        halfOfEachMinute();
        aNewGauge();
        fromOneToThousand();
        returnsHowManyAreThere();
        mostDrops();
        hundredTimes();
        returnsTheOneBefore();
        gaugeIsSoAlready();
        gaugeTakenAway();
        noGauge();
        mostMinutes();
        minutesTogetherAsOneByOne();
        countOfWhatIsThere();
        groundNothingYetAndFull();
        anewPutTogether();
        anewWhatIsNotOnTheGround();
        allWater();
        DUES.end();
    }

    /** "Begins in the minute 0." "Minutes are counted from 0." */
    private static void beginsInTheMinuteZero() {
        DUES.run("the first minute", "pass(1) = 1", "pass(1) = 2");
        DUES.run("the first hour", "pass(60) = 60");
    }

    /** "With nothing in the air." */
    private static void beginsWithNothingInTheAir() {
        for (int size = 1; size <= 3; size++) {
            List<String> rows = new ArrayList<>();
            for (int place = 0; place < 200; place++) {
                rows.add("count(" + place / 10 + ", " + place % 10 + ", " + size + ") = 0");
            }
            for (int what = 0; what < 4; what++) {
                rows.add("water(" + what + ") = 0");
            }
            DUES.run("nothing in the air", rows);
        }
        List<String> rows = new ArrayList<>();
        for (int kilometre = 0; kilometre < 20; kilometre++) {
            for (int elevation = 0; elevation < 4; elevation++) {
                rows.add("echo(" + kilometre + ", " + elevation + ") = 0");
                rows.add("seen(" + kilometre + ", " + elevation + ") = 0");
            }
            rows.add("ground(" + kilometre + ") = 0");
            rows.add("groundAnew(" + kilometre + ") = 0");
        }
        rows.add("pass(60) = 60");
        rows.add("water(2) = 0");
        DUES.run("nothing to be seen", rows);
    }

    /** "Without hills, gauges, drift and scans." */
    private static void beginsWithoutHillsGaugesDriftAndScans() {
        List<String> rows = new ArrayList<>();
        for (int elevation = 0; elevation < 4; elevation++) {
            rows.add("echo(19, " + elevation + ") = 0");
        }
        for (int kilometre = 0; kilometre < 20; kilometre++) {
            rows.add("hill(" + kilometre + ", 0) = 0");
            rows.add("collected(" + kilometre + ") = outside");
            rows.add("clog(" + kilometre + ", false) = outside");
            rows.add("gauge(" + kilometre + ", false) = false");
            rows.add("rain(" + kilometre + ") = 0");
            rows.add("rainBy(" + kilometre + ", 1) = 0");
        }
        rows.add("motion() = tooMany");
        rows.add("drift(0, true) = 0");
        DUES.run("nothing there", rows);
    }

    /** "There are the kilometres 0 to 19, above each the layers 0 to 9." */
    private static void kilometresAndLayers() {
        DUES.run("the corners", "drops(0, 0, 1, 1) = 1", "drops(0, 9, 1, 2) = 2", "drops(19, 0, 1, 3) = 3", "drops(19, 9, 1, 4) = 4",
            "count(0, 0, 1) = 1", "count(0, 9, 1) = 2", "count(19, 0, 1) = 3", "count(19, 9, 1) = 4", "water(1) = 10");
        DUES.run("beyond the corners", "drops(-1, 0, 1, 1) = outside", "drops(20, 0, 1, 1) = outside", "drops(0, -1, 1, 1) = outside",
            "drops(0, 10, 1, 1) = outside", "count(-1, 9, 1) = outside", "count(20, 9, 1) = outside", "count(19, -1, 1) = outside",
            "count(19, 10, 1) = outside", "water(0) = 0");
        List<String> rows = new ArrayList<>();
        for (int i = 0; i < 100; i++) {
            rows.add("drops(" + i / 5 + ", " + i % 5 * 2 + ", 2, " + (i + 1) + ") = " + (i + 1));
        }
        for (int i = 0; i < 100; i++) {
            rows.add("count(" + i / 5 + ", " + i % 5 * 2 + ", 2) = " + (i + 1));
            rows.add("count(" + i / 5 + ", " + (i % 5 * 2 + 1) + ", 2) = 0");
        }
        DUES.run("each place is another one", rows);
    }

    /** "A drop is of the size 1, 2 or 3; its water is the size times itself times itself." */
    private static void waterOfADrop() {
        DUES.run("each size", "drops(0, 9, 1, 1) = 1", "water(0) = 1", "drops(0, 9, 2, 1) = 1", "water(0) = 9",
            "drops(0, 9, 3, 1) = 1", "water(0) = 36", "water(1) = 36");
        DUES.run("no such size", "drops(0, 9, 0, 1) = illegal", "drops(0, 9, 4, 1) = illegal", "count(0, 9, 0) = illegal",
            "count(0, 9, 4) = illegal", "water(0) = 0");
    }

    /** "Snow melts in some layer, 5 at first: drops above it are SNOW, in it MELTING, below it WATER." */
    private static void meltsInFiveAtFirst() {
        DUES.run("at first", "phase(9) = 0", "phase(6) = 0", "phase(5) = 1", "phase(4) = 2", "phase(0) = 2",
            "phase(10) = outside", "phase(-1) = outside", "melt(5) = 5");
    }

    /** The same where there is no layer below or above it. */
    private static void meltsInTheLowestAndTheHighest() {
        DUES.run("the lowest", "melt(0) = 5", "phase(0) = 1", "phase(1) = 0", "phase(9) = 0");
        DUES.run("the highest", "melt(9) = 5", "phase(9) = 1", "phase(8) = 2", "phase(0) = 2");
        DUES.run("no such layer", "melt(-1) = outside", "melt(10) = outside", "melt(9) = 5", "melt(10) = outside", "melt(0) = 9");
    }

    /** "SNOW falls 1 layer, other drops as many as their size; what would be below the layer 0 is on the ground." */
    private static void fallsByPhaseAndSize() {
        for (int melting = 0; melting < 10; melting++) {
            for (int layer = 0; layer < 10; layer++) {
                for (int size = 1; size <= 3; size++) {
                    int below = layer > melting ? layer - 1 : layer - size;
                    int water = 5 * size * size * size;
                    String there = below < 0 ? "ground(3) = " + water : "count(3, " + below + ", " + size + ") = 5";
                    DUES.run("size " + size + " from " + layer + " with snow down to " + melting, "melt(" + melting + ")",
                        "drops(3, " + layer + ", " + size + ", 5)", "pass(1)", there, "count(3, " + layer + ", " + size + ") = 0",
                        "water(1) = " + (below < 0 ? 0 : water), "water(3) = 0");
                }
            }
        }
    }

    /** "What would be below the layer 0 is on the ground of that kilometre." */
    private static void isOnTheGroundOfThatKilometre() {
        DUES.run("just not", "drops(0, 1, 1, 1)", "drops(7, 2, 2, 1)", "drops(19, 3, 3, 1)", "pass(1)", "water(2) = 0",
            "count(0, 0, 1) = 1", "count(7, 0, 2) = 1", "count(19, 0, 3) = 1");
        DUES.run("just", "drops(0, 0, 1, 1)", "drops(7, 1, 2, 1)", "drops(19, 2, 3, 1)", "pass(1)", "water(1) = 0",
            "ground(0) = 1", "ground(7) = 8", "ground(19) = 27", "ground(1) = 0", "ground(6) = 0", "ground(8) = 0", "ground(18) = 0");
        DUES.run("far below", "drops(0, 0, 3, 1)", "drops(19, 0, 2, 1)", "pass(1)", "ground(0) = 27", "ground(19) = 8");
    }

    /** "Then, if there is a drift": "1 to 60, or 0 for no drift". */
    private static void noDrift() {
        DUES.run("none at first", "drops(0, 9, 1, 1)", "drops(19, 9, 1, 2)", "pass(4)", "count(0, 5, 1) = 1", "count(19, 5, 1) = 2");
        DUES.run("none any more", "drift(1, true) = 0", "drift(0, true) = 1", "drops(19, 9, 1, 2)", "pass(4)", "count(19, 5, 1) = 2",
            "drift(0, false) = 0", "pass(1)", "count(19, 4, 1) = 2");
        DUES.run("no such period", "drift(-1, true) = illegal", "drift(61, true) = illegal", "drift(60, true) = 0",
            "drift(-1, false) = illegal", "drift(61, false) = illegal", "drift(1, true) = 60");
    }

    /** "The number of the minute, 1 for the first one that goes by, can be divided by its period." */
    private static void driftByThePeriod() {
        for (int period = 1; period <= 60; period++) {
            int last = 600 / period * period;
            for (int minute : new int[] {period - 1, period, period + 1, 2 * period, last - 1, last, last + 1}) {
                if (minute >= 1 && minute <= 600) {
                    driftInTheMinute(period, minute);
                }
            }
        }
        DUES.run("not by the minutes since it was told", "pass(1)", "drops(4, 9, 1, 1)", "drift(3, true)", "pass(1)",
            "count(4, 8, 1) = 1", "pass(1) = 3", "count(5, 7, 1) = 1", "pass(1)", "count(5, 6, 1) = 1");
    }

    /** A drop above the last kilometre leaves in the minute if the drift is in it. */
    private static void driftInTheMinute(int period, int minute) {
        List<String> rows = new ArrayList<>(List.of("drift(" + period + ", true)", (minute - 1) / 60 + " pass(60)"));
        rows.add("pass(" + (minute - 1) % 60 + ")");
        rows.addAll(List.of("drops(19, 9, 1, 1) = 1", "pass(1) = " + minute));
        rows.add("water(3) = " + (minute % period == 0 ? 1 : 0));
        DUES.run("period " + period, rows);
    }

    /** "Then": what comes to the ground in a minute does not go with the drift of that minute. */
    private static void driftAfterTheFall() {
        DUES.run("up", "drift(1, true)", "gauge(4, true)", "drops(4, 0, 1, 5)", "drops(19, 1, 2, 1)", "pass(1)", "ground(4) = 5",
            "ground(5) = 0", "ground(19) = 8", "collected(4) = 5", "water(3) = 0");
        DUES.run("down", "drift(1, false)", "gauge(4, true)", "drops(4, 2, 3, 1)", "drops(0, 0, 1, 1)", "pass(1)", "ground(4) = 27",
            "ground(3) = 0", "ground(0) = 1", "collected(4) = 27", "water(3) = 0");
        DUES.run("the phase is that above the kilometre ahead", "drift(1, true)", "drops(4, 6, 3, 1)", "pass(1)", "count(5, 5, 3) = 1",
            "pass(1)", "count(6, 2, 3) = 1", "pass(1)", "ground(6) = 27");
    }

    /** "All drops in the air go a kilometre, up or down by numbers as the drift goes." */
    private static void driftOfAllDrops() {
        for (boolean isUp : new boolean[] {true, false}) {
            List<String> rows = new ArrayList<>(List.of("drift(1, " + isUp + ")"));
            for (int kilometre = 0; kilometre < 20; kilometre++) {
                int size = kilometre % 3 + 1;
                rows.add("drops(" + kilometre + ", " + (6 + kilometre % 4) + ", " + size + ", " + (kilometre + 1) + ")");
            }
            rows.add("pass(1)");
            for (int kilometre = 0; kilometre < 20; kilometre++) {
                int to = kilometre + (isUp ? 1 : -1);
                if (to >= 0 && to < 20) {
                    int size = kilometre % 3 + 1;
                    rows.add("count(" + to + ", " + (5 + kilometre % 4) + ", " + size + ") = " + (kilometre + 1));
                }
            }
            // The one that leaves is 20 drops of the size 2, or 1 of the size 1.
            rows.add("water(3) = " + (isUp ? 160 : 1));
            DUES.run("all at once", rows);
        }
    }

    /** "What would be beyond the last one has left." */
    private static void hasLeft() {
        DUES.run("up", "drift(1, true)", "drops(18, 9, 2, 3)", "pass(1)", "count(19, 8, 2) = 3", "water(3) = 0", "pass(1)", "water(3) = 24",
            "water(1) = 0", "count(19, 7, 2) = 0", "count(0, 7, 2) = 0");
        DUES.run("down", "drift(1, false)", "drops(1, 9, 2, 3)", "pass(1)", "count(0, 8, 2) = 3", "water(3) = 0", "pass(1)", "water(3) = 24",
            "water(1) = 0", "count(0, 7, 2) = 0", "count(19, 7, 2) = 0");
        DUES.run("it does not come back", "drift(1, true)", "drops(19, 9, 2, 3)", "pass(1)", "drift(1, false) = 1", "pass(1)", "water(1) = 0",
            "drift(0, true) = 1", "pass(9)", "water(2) = 0", "water(3) = 24", "ground(19) = 0", "groundAnew(19) = 0", "groundAnew(18) = 0");
        DUES.run("nor from below", "drift(1, false)", "drops(0, 9, 3, 1)", "pass(1)", "drift(1, true) = 1", "pass(1)", "water(1) = 0",
            "drift(0, true) = 1", "pass(9)", "water(2) = 0", "water(3) = 27", "ground(0) = 0", "groundAnew(0) = 0", "groundAnew(1) = 0");
    }

    /** "A gauge of a kilometre, once it is put up, collects the water that comes to the ground there, which is on the ground all the same." */
    private static void collectsOnceItIsPutUp() {
        DUES.run("not what came ahead", "drops(0, 0, 1, 3)", "pass(1)", "gauge(0, true) = false", "collected(0) = 0", "ground(0) = 3",
            "drops(0, 0, 2, 1)", "collected(0) = 0", "pass(1)", "collected(0) = 8", "ground(0) = 11", "water(2) = 11");
        DUES.run("not what comes beside it", "gauge(10, true)", "drops(9, 0, 1, 1)", "drops(11, 0, 1, 1)", "pass(1)", "collected(10) = 0");
        DUES.run("the first and the last", "gauge(0, true)", "gauge(19, true)", "drops(0, 0, 1, 1)", "drops(19, 0, 1, 2)", "pass(1)",
            "collected(0) = 1", "collected(19) = 2", "ground(0) = 1", "ground(19) = 2");
    }

    /** "While it is clogged, half of all that comes there in a minute, rounded down." */
    private static void halfRoundedDown() {
        for (int many = 1; many <= 5; many++) {
            DUES.run("half of " + many, "gauge(6, true)", "clog(6, true)", "drops(6, 0, 1, " + many + ")", "pass(1)",
                "collected(6) = " + many / 2, "ground(6) = " + many, "water(2) = " + many);
        }
        DUES.run("nothing comes", "gauge(6, true)", "clog(6, true)", "pass(60)", "collected(6) = 0");
        DUES.run("while", "gauge(6, true)", "drops(6, 0, 1, 9)", "pass(1)", "collected(6) = 9", "clog(6, true)", "collected(6) = 9",
            "drops(6, 0, 1, 9)", "pass(1)", "collected(6) = 13", "clog(6, false)", "collected(6) = 13", "drops(6, 0, 1, 9)", "pass(1)",
            "collected(6) = 22");
        DUES.run("another gauge is not", "gauge(6, true)", "gauge(7, true)", "clog(6, true)", "drops(6, 0, 1, 9)", "drops(7, 0, 1, 9)",
            "pass(1)", "collected(6) = 4", "collected(7) = 9");
    }

    /** "Half of all that comes there", not of each size, layer or call by itself. */
    private static void halfOfAllTogether() {
        DUES.run("two sizes", "gauge(6, true)", "clog(6, true)", "drops(6, 0, 1, 1)", "drops(6, 0, 3, 1)", "pass(1)", "collected(6) = 14");
        DUES.run("two layers", "gauge(6, true)", "clog(6, true)", "drops(6, 0, 3, 1)", "drops(6, 2, 3, 1)", "pass(1)", "collected(6) = 27");
        DUES.run("two calls", "gauge(6, true)", "clog(6, true)", "drops(6, 0, 1, 1)", "drops(6, 0, 1, 1)", "pass(1)", "collected(6) = 1");
    }

    /** "In a minute", not over several, though they go by in one call. */
    private static void halfOfEachMinute() {
        DUES.run("1 and 1", "gauge(6, true)", "clog(6, true)", "drops(6, 0, 1, 1)", "drops(6, 1, 1, 1)", "pass(2)", "collected(6) = 0");
        DUES.run("3 and 3, one by one", "gauge(6, true)", "clog(6, true)", "drops(6, 0, 1, 3)", "drops(6, 1, 1, 3)", "pass(1)",
            "collected(6) = 1", "pass(1)", "collected(6) = 2");
    }

    /** "A new one has nothing, and is not clogged." */
    private static void aNewGauge() {
        DUES.run("the first", "gauge(3, true)", "collected(3) = 0", "clog(3, true) = false");
        DUES.run("one after another", "gauge(3, true)", "clog(3, true)", "drops(3, 0, 1, 8)", "pass(1)", "collected(3) = 4", "gauge(3, false)",
            "gauge(3, true) = false", "collected(3) = 0", "clog(3, false) = false", "drops(3, 0, 1, 8)", "pass(1)", "collected(3) = 8");
    }

    /** "many: 1 to 1000". */
    private static void fromOneToThousand() {
        DUES.run("how many", "drops(2, 3, 1, 1) = 1", "drops(2, 3, 1, 1000) = 1001", "drops(2, 3, 1, 0) = illegal",
            "drops(2, 3, 1, 1001) = illegal", "count(2, 3, 1) = 1001", "water(0) = 1001");
    }

    /** "Returns how many of that size are there then." */
    private static void returnsHowManyAreThere() {
        DUES.run("with those that were there", "drops(2, 3, 1, 4) = 4", "drops(2, 3, 1, 5) = 9", "drops(2, 3, 2, 6) = 6", "drops(2, 4, 1, 7) = 7",
            "drops(1, 3, 1, 8) = 8", "pass(1)", "drops(2, 3, 1, 1) = 8");
    }

    /** All calls with the most drops in one place. */
    private static void mostDrops() {
        DUES.run("the most", "99 drops(19, 9, 3, 1000)", "drops(19, 9, 3, 1000) = 100000", "water(0) = 2700000", "water(1) = 2700000",
            "gauge(19, true)", "clog(19, true)", "melt(9)", "pass(4)", "collected(19) = 1350000", "ground(19) = 2700000",
            "groundAnew(19) = 2700000", "water(2) = 2700000", "water(1) = 0");
    }

    /** "If that was done 100 times". */
    private static void hundredTimes() {
        DUES.run("99, 100, 101", "98 drops(4, 9, 1, 1)", "drops(4, 9, 1, 1) = 99", "drops(4, 9, 1, 1) = 100", "drops(4, 9, 1, 1) = tooMany",
            "count(4, 9, 1) = 100", "water(0) = 100", "pass(10)", "groundAnew(4) = 100", "drops(5, 9, 1, 1) = tooMany", "water(0) = 100");
        DUES.run("refused ones are not done", "50 drops(20, 0, 1, 1)", "50 drops(0, 10, 1, 1)", "50 drops(0, 0, 4, 1)", "50 drops(0, 0, 1, 0)",
            "99 drops(4, 9, 1, 1)", "drops(4, 9, 1, 1) = 100", "drops(4, 9, 1, 1) = tooMany");
    }

    /** "Returns the one before", the height before, the period before, whether there was one, whether it was. */
    private static void returnsTheOneBefore() {
        DUES.run("melt", "melt(9) = 5", "melt(0) = 9", "melt(0) = 0", "melt(4) = 0", "melt(4) = 4");
        DUES.run("hill", "hill(0, 9) = 0", "hill(0, 0) = 9", "hill(0, 1) = 0", "hill(19, 9) = 0", "hill(0, 1) = 1", "hill(0, 10) = illegal",
            "hill(0, -1) = illegal", "hill(-1, 2) = outside", "hill(20, 2) = outside", "hill(0, 0) = 1", "hill(19, 0) = 9");
        DUES.run("drift", "drift(60, true) = 0", "drift(1, false) = 60", "drift(1, true) = 1", "drift(0, true) = 1", "drift(0, true) = 0");
        DUES.run("gauge", "gauge(0, true) = false", "gauge(0, true) = true", "gauge(0, false) = true", "gauge(0, false) = false",
            "gauge(19, true) = false", "gauge(-1, true) = outside", "gauge(20, true) = outside", "gauge(19, false) = true");
        DUES.run("clog", "gauge(0, true)", "clog(0, true) = false", "clog(0, true) = true", "clog(0, false) = true", "clog(0, false) = false");
    }

    /** "Where it is so already, nothing changes." */
    private static void gaugeIsSoAlready() {
        DUES.run("up already", "gauge(3, true)", "clog(3, true)", "drops(3, 0, 1, 8)", "pass(1)", "gauge(3, true) = true", "collected(3) = 4",
            "drops(3, 0, 1, 8)", "pass(1)", "collected(3) = 8", "clog(3, true) = true");
        DUES.run("away already", "gauge(3, false) = false", "gauge(3, false) = false", "collected(3) = outside", "clog(3, true) = outside");
    }

    /** "Puts a gauge up, or takes it away, and what it has with it." */
    private static void gaugeTakenAway() {
        DUES.run("what it has", "gauge(3, true)", "gauge(4, true)", "drops(3, 0, 1, 8)", "drops(4, 0, 1, 8)", "pass(1)", "gauge(3, false) = true",
            "collected(3) = outside", "collected(4) = 8", "ground(3) = 8", "gauge(3, true) = false", "collected(3) = 0", "ground(3) = 8");
        DUES.run("what comes while it is away", "gauge(3, true)", "gauge(3, false)", "drops(3, 0, 1, 8)", "pass(1)", "gauge(3, true)",
            "collected(3) = 0", "ground(3) = 8");
    }

    /** "There is no such kilometre, layer, or gauge." */
    private static void noGauge() {
        DUES.run("never", "clog(0, true) = outside", "clog(0, false) = outside", "collected(0) = outside", "gauge(0, true) = false",
            "clog(0, false) = false");
        DUES.run("not there", "gauge(7, true)", "clog(6, true) = outside", "clog(8, true) = outside", "collected(6) = outside",
            "collected(8) = outside", "clog(7, false) = false", "collected(7) = 0");
        DUES.run("nowhere", "clog(-1, true) = outside", "clog(20, true) = outside", "collected(-1) = outside", "collected(20) = outside");
    }

    /** "minutes: 1 to 60". "If it would be above 600". */
    private static void mostMinutes() {
        DUES.run("at first", "pass(0) = illegal", "pass(61) = illegal", "pass(-1) = illegal", "pass(1) = 1", "pass(60) = 61");
        DUES.run("600", "9 pass(60)", "pass(60) = 600", "pass(1) = tooMany", "pass(60) = tooMany", "pass(0) = illegal", "pass(61) = illegal");
        DUES.run("599", "9 pass(60)", "pass(59) = 599", "pass(2) = tooMany", "pass(60) = tooMany", "pass(1) = 600", "pass(1) = tooMany");
        DUES.run("601", "9 pass(60)", "pass(1) = 541", "drops(2, 9, 1, 1)", "gauge(2, true)", "drift(1, true)", "pass(60) = tooMany",
            "count(2, 9, 1) = 1", "water(3) = 0", "pass(59) = 600");
    }

    /** "Lets minutes go by": as many at once are the same as one by one. */
    private static void minutesTogetherAsOneByOne() {
        List<String> ends = new ArrayList<>();
        for (int kilometre = 0; kilometre < 20; kilometre++) {
            ends.add("ground(" + kilometre + ")");
            ends.add("count(" + kilometre + ", 2, 1)");
        }
        Calls together = new Calls();
        Calls oneByOne = new Calls();
        for (Calls calls : List.of(together, oneByOne)) {
            for (String call : List.of("drops(3, 9, 1, 5)", "drops(3, 9, 2, 5)", "drops(3, 9, 3, 5)", "drift(3, true)", "gauge(4, true)", "clog(4, true)")) {
                calls.answer(call);
            }
        }
        together.answer("pass(7)");
        for (int i = 0; i < 7; i++) {
            oneByOne.answer("pass(1)");
        }
        for (String end : ends) {
            DUES.compare(end, together.answer(end), oneByOne.answer(end));
        }
    }

    /** "Returns how many drops of a size there are." */
    private static void countOfWhatIsThere() {
        DUES.run("by size", "drops(2, 0, 1, 4)", "drops(2, 0, 3, 6)", "count(2, 0, 1) = 4", "count(2, 0, 2) = 0", "count(2, 0, 3) = 6",
            "pass(1)", "count(2, 0, 1) = 0", "count(2, 0, 3) = 0");
    }

    /** "Returns the water on the ground of a kilometre": nothing yet, and from all calls. */
    private static void groundNothingYetAndFull() {
        DUES.run("nothing yet", "drops(0, 0, 1, 1)", "ground(0) = 0", "groundAnew(0) = 0", "water(2) = 0", "ground(-1) = outside",
            "ground(20) = outside", "groundAnew(-1) = outside", "groundAnew(20) = outside");
        DUES.run("all", "50 drops(0, 0, 3, 1000)", "50 drops(19, 2, 3, 1000)", "pass(1)", "ground(0) = 1350000", "ground(19) = 1350000",
            "groundAnew(0) = 1350000", "groundAnew(19) = 1350000", "ground(1) = 0", "groundAnew(18) = 0");
    }

    /** "Found by following all drops once more, those that were put into the air together at once." */
    private static void anewPutTogether() {
        DUES.run("by the melting layer of then", "drops(5, 9, 3, 1)", "pass(4)", "melt(0)", "pass(1)", "melt(9)", "pass(1)", "groundAnew(5) = 0",
            "pass(1)", "groundAnew(5) = 27", "ground(5) = 27", "melt(0)", "groundAnew(5) = 27");
        DUES.run("by the drift of then", "drift(2, true)", "drops(5, 2, 1, 1)", "pass(2)", "drift(1, false)", "pass(1)", "drift(0, true)",
            "groundAnew(6) = 1", "groundAnew(5) = 0", "ground(6) = 1");
        DUES.run("from the minute on in which they were put", "drift(1, true)", "pass(30)", "drops(5, 1, 1, 1)", "pass(2)", "groundAnew(6) = 1",
            "ground(6) = 1");
        DUES.run("in the last minute", "9 pass(60)", "pass(59)", "melt(9)", "drops(5, 2, 3, 2)", "drops(6, 3, 3, 2)", "pass(1) = 600",
            "groundAnew(5) = 54", "ground(5) = 54", "groundAnew(6) = 0", "drops(7, 0, 1, 3)", "groundAnew(7) = 0", "water(1) = 57");
    }

    /** Neither what is in the air yet nor what has left is on the ground. */
    private static void anewWhatIsNotOnTheGround() {
        DUES.run("in the air", "drops(5, 1, 1, 1)", "pass(1)", "groundAnew(5) = 0", "pass(1)", "groundAnew(5) = 1");
        DUES.run("left up", "drift(1, true)", "drops(18, 2, 1, 1)", "drops(18, 1, 1, 2)", "pass(9)", "groundAnew(19) = 2", "groundAnew(18) = 0",
            "water(3) = 1", "ground(19) = 2");
        DUES.run("left down", "drift(1, false)", "drops(1, 2, 1, 1)", "drops(1, 1, 1, 2)", "pass(9)", "groundAnew(0) = 2", "groundAnew(1) = 0",
            "water(3) = 1", "ground(0) = 2");
    }

    /** "what: 0 that was put into the air, 1 in the air now, 2 on the ground, 3 that has left". */
    private static void allWater() {
        DUES.run("no such water", "water(-1) = illegal", "water(4) = illegal");
        DUES.run("each", "drift(1, true)", "drops(0, 0, 1, 1)", "drops(19, 9, 2, 1)", "drops(4, 9, 3, 1)", "water(0) = 36", "water(1) = 36",
            "water(2) = 0", "water(3) = 0", "pass(1)", "water(0) = 36", "water(1) = 27", "water(2) = 1", "water(3) = 8", "pass(60)",
            "water(0) = 36", "water(1) = 0", "water(2) = 28", "water(3) = 8");
        DUES.run("a gauge takes none of it", "gauge(0, true)", "drops(0, 0, 1, 4)", "pass(1)", "gauge(0, false)", "water(2) = 4", "water(0) = 4");
    }
}
