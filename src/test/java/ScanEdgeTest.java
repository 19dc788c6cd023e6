import java.util.ArrayList;
import java.util.List;

/**
 * The edges that the document names for scans, rain and motion: promises 9, 10 and 15 to 17. Above each test stands
 * the sentence of the document that it is for.
 */
public final class ScanEdgeTest {
    private static final Dues DUES = new Dues("ScanEdgeTest");

    public static void main(String[] args) {
        elevations();
        notBlocked();
        zeroWhereItIsBlocked();
        keepsTheEchoes();
        thirtyScans();
        rules();
        ruleOfThen();
        noScansYet();
        eachRoundedDown();
        ruleAtTheEcho();
        rainOfEachKilometre();
        rainOfThirtyScans();
        fewerThanTwoScans();
        motionFromBelowThreeToThree();
        beyondThree();
        alikeOnesTwoByTwo();
        alikeOnesThreeByThree();
        leastSumNotTheMostEchoes();
        withoutSign();
        zeroWhereThereIsNoneSuch();
        overAllKilometres();
        latestTwo();
        otherElevations();
        blockedScans();
        DUES.end();
    }

    /** "elevation: 0 to 3". */
    private static void elevations() {
        DUES.run("the ends", "scan(0) = 20", "scan(3) = 20");
        DUES.run("beyond the ends", "scan(-1) = illegal", "scan(4) = illegal", "motion() = tooMany", "scan(0) = 20", "scan(4) = illegal",
            "motion() = tooMany");
    }

    /** "Returns in how many kilometres it is not blocked." */
    private static void notBlocked() {
        DUES.run("from none to all", "hill(0, 1)", "scan(0) = 0", "scan(3) = 0", "hill(0, 0)", "hill(1, 1)", "scan(0) = 1", "scan(3) = 1", "hill(1, 0)",
            "hill(19, 9)", "scan(0) = 19", "scan(1) = 19", "scan(2) = 20", "scan(3) = 20", "hill(19, 0)", "scan(0) = 20");
    }

    /** "A scan of an elevation keeps the echoes of its beam, 0 where it is blocked." */
    private static void zeroWhereItIsBlocked() {
        DUES.run("0", "drops(4, 0, 1, 50)", "drops(5, 0, 1, 60)", "drops(6, 0, 1, 70)", "hill(5, 1)", "scan(0) = 5", "rain(4) = 5", "rain(5) = 0",
            "rain(6) = 0", "rainBy(5, 1) = 0", "rainBy(6, 1) = 0", "hill(5, 0)", "rain(5) = 0", "scan(0) = 20", "rain(4) = 10", "rain(5) = 6",
            "rain(6) = 7");
    }

    /** "Keeps the echoes": what happens later on changes nothing of a scan. */
    private static void keepsTheEchoes() {
        DUES.run("later on", "drops(4, 0, 2, 5)", "melt(0)", "scan(0) = 20", "rain(4) = 96", "melt(9)", "rain(4) = 96", "drops(4, 0, 3, 1)", "rain(4) = 96",
            "hill(0, 9)", "rain(4) = 96", "pass(60)", "rain(4) = 96", "rainBy(4, 1) = 960");
        DUES.run("raw, not seen", "drops(0, 0, 1, 1000)", "drops(1, 0, 1, 1000)", "scan(0) = 20", "rain(1) = 100");
        DUES.run("by the phase", "melt(0)", "drops(10, 1, 1, 43)", "scan(0)", "rainBy(10, 1) = 10");
    }

    /** "If there are 30". */
    private static void thirtyScans() {
        DUES.run("29, 30, 31", "drops(4, 0, 1, 10)", "28 scan(0)", "scan(0) = 20", "rain(4) = 29", "scan(0) = 20", "rain(4) = 30", "scan(0) = tooMany",
            "rain(4) = 30", "rainBy(4, 5) = 60", "scan(4) = illegal", "scan(-1) = illegal", "pass(1)", "scan(3) = tooMany", "motion() = 0", "rain(4) = 30");
        DUES.run("refused ones are none", "40 scan(4)", "40 scan(-1)", "29 scan(0)", "scan(0) = 20", "scan(0) = tooMany");
    }

    /** "A rule is a number, 1 to 1000, 10 at first." "Returns the one before." */
    private static void rules() {
        DUES.run("10 at first", "rule(10) = 10", "rule(1) = 10", "rule(1000) = 1", "rule(1000) = 1000", "rule(500) = 1000");
        DUES.run("no such rule", "rule(0) = illegal", "rule(1001) = illegal", "rule(-1) = illegal", "rule(1) = 10", "rule(0) = illegal", "rule(1) = 1");
        DUES.run("no such one rule", "scan(0)", "rainBy(0, 0) = illegal", "rainBy(0, 1001) = illegal", "rainBy(0, -1) = illegal", "rainBy(0, 1) = 0",
            "rainBy(0, 1000) = 0", "rainBy(-1, 1) = outside", "rainBy(20, 1) = outside", "rainBy(-1, 0) = outside", "rainBy(20, 1001) = outside");
    }

    /** "And the rule of then"; "sets the rule of scans from now on". */
    private static void ruleOfThen() {
        DUES.run("of then", "drops(4, 0, 1, 1000)", "scan(0)", "rain(4) = 100", "rule(1)", "rain(4) = 100", "scan(0)", "rain(4) = 1100", "rule(1000)",
            "rain(4) = 1100", "scan(0)", "rain(4) = 1101", "rule(1001) = illegal", "scan(0)", "rain(4) = 1102", "rainBy(4, 10) = 400", "scan(0)",
            "rain(4) = 1103");
    }

    /** Rain "over all scans", of which there is none yet. */
    private static void noScansYet() {
        DUES.run("none", "drops(4, 0, 1, 1000)", "rain(4) = 0", "rainBy(4, 1) = 0", "rain(0) = 0", "rain(19) = 0", "rain(-1) = outside",
            "rain(20) = outside");
    }

    /** "Its echo divided by the rule of the scan, each rounded down." */
    private static void eachRoundedDown() {
        DUES.run("by the rule of the scan", "drops(4, 0, 1, 19)", "scan(0)", "rain(4) = 1", "scan(0)", "rain(4) = 2", "scan(0)", "rain(4) = 3");
        DUES.run("by one rule", "drops(4, 0, 1, 19)", "3 scan(0)", "rainBy(4, 7) = 6", "rainBy(4, 19) = 3", "rainBy(4, 20) = 0", "rainBy(4, 18) = 3");
        DUES.run("by different rules", "drops(4, 0, 1, 19)", "rule(7)", "scan(0)", "rule(11)", "scan(0)", "rule(20)", "scan(0)", "rain(4) = 3");
    }

    /** A rule just as great as the echo, and just beside it. */
    private static void ruleAtTheEcho() {
        DUES.run("999, 1000", "drops(4, 0, 1, 999)", "scan(0)", "rainBy(4, 998) = 1", "rainBy(4, 999) = 1", "rainBy(4, 1000) = 0", "rainBy(4, 1) = 999",
            "rainBy(4, 2) = 499", "rainBy(4, 500) = 1");
    }

    /** "The rain of a kilometre" is of that kilometre, the first and the last too. */
    private static void rainOfEachKilometre() {
        List<String> rows = new ArrayList<>();
        for (int kilometre = 0; kilometre < 20; kilometre++) {
            rows.add("drops(" + kilometre + ", " + Beams.LAYERS[0][kilometre] + ", 1, " + (10 * kilometre + 10) + ")");
        }
        rows.add("scan(0) = 20");
        rows.add("scan(0) = 20");
        for (int kilometre = 0; kilometre < 20; kilometre++) {
            rows.add("rain(" + kilometre + ") = " + (2 * kilometre + 2));
            rows.add("rainBy(" + kilometre + ", 1) = " + (20 * kilometre + 20));
        }
        DUES.run("each kilometre", rows);
    }

    /** "Over all scans": the first, the 30th, and each with a rule of its own. */
    private static void rainOfThirtyScans() {
        List<String> rows = new ArrayList<>(List.of("drops(4, 0, 1, 1000)"));
        int due = 0;
        for (int rule = 1; rule <= 30; rule++) {
            rows.add("rule(" + rule + ")");
            rows.add("scan(0) = 20");
            due += 1000 / rule;
            rows.add("rain(4) = " + due);
        }
        rows.add("rainBy(4, 3) = " + 30 * 333);
        DUES.run("30 rules", rows);
    }

    /** "If there are not two scans". */
    private static void fewerThanTwoScans() {
        DUES.run("none, one, two", "motion() = tooMany", "scan(0)", "motion() = tooMany", "scan(0)", "motion() = 0", "motion() = 0");
    }

    /** Echoes of the kilometres 0 to 9 of two scans, by which the motion is found. */
    private static void motion(String what, int[] ahead, int[] latest, int due) {
        List<String> rows = new ArrayList<>();
        addEchoes(rows, ahead);
        rows.add("scan(0) = 20");
        rows.add("pass(1) = 1");
        addEchoes(rows, latest);
        rows.add("scan(0) = 20");
        rows.add("motion() = " + due);
        DUES.run(what, rows);
    }

    /** Pairs of a kilometre, below 10, and its echo. */
    private static void addEchoes(List<String> rows, int[] pairs) {
        for (int i = 0; i < pairs.length; i += 2) {
            rows.add("drops(" + pairs[i] + ", 0, 1, " + pairs[i + 1] + ")");
        }
    }

    /** "By how many kilometres, -3 to 3, the latest scan is best had from the one ahead of it". */
    private static void motionFromBelowThreeToThree() {
        for (int by = -3; by <= 3; by++) {
            motion("one echo", new int[] {5, 40}, new int[] {5 + by, 40}, by);
            motion("two echoes", new int[] {4, 40, 6, 90}, new int[] {4 + by, 40, 6 + by, 90}, by);
        }
    }

    /** Nothing is had from beyond -3 and 3. */
    private static void beyondThree() {
        motion("by 4", new int[] {5, 40}, new int[] {9, 40}, 0);
        motion("by -4", new int[] {5, 40}, new int[] {1, 40}, 0);
        motion("by 4, with something by 3", new int[] {5, 40}, new int[] {9, 40, 8, 1}, 3);
        motion("by -4, with something by -3", new int[] {5, 40}, new int[] {1, 40, 2, 1}, -3);
    }

    /** "Of alike ones the one nearest to 0, then the one below 0." */
    private static void alikeOnesTwoByTwo() {
        for (int one = -3; one <= 3; one++) {
            for (int other = one + 1; other <= 3; other++) {
                int nearer = Math.abs(one) < Math.abs(other) ? one : other;
                int due = one == -other ? one : nearer;
                motion("alike: " + one + " and " + other, new int[] {5, 40}, new int[] {5 + one, 40, 5 + other, 40}, due);
            }
        }
    }

    /** The same with three and with all that are alike. */
    private static void alikeOnesThreeByThree() {
        motion("-3, -2, 2", new int[] {5, 40}, new int[] {2, 40, 3, 40, 7, 40}, -2);
        motion("-3, 1, 2", new int[] {5, 40}, new int[] {2, 40, 6, 40, 7, 40}, 1);
        motion("-1, 1, 3", new int[] {5, 40}, new int[] {4, 40, 6, 40, 8, 40}, -1);
        motion("-3, 3, 2", new int[] {5, 40}, new int[] {2, 40, 8, 40, 7, 40}, 2);
        motion("all", new int[] {5, 40}, new int[] {2, 40, 3, 40, 4, 40, 5, 40, 6, 40, 7, 40, 8, 40}, 0);
        motion("all but 0", new int[] {5, 40}, new int[] {2, 40, 3, 40, 4, 40, 6, 40, 7, 40, 8, 40}, -1);
        motion("nothing at all", new int[] {}, new int[] {}, 0);
    }

    /** "It has the least sum": one that is less by 1 is best, though it is farther from 0. */
    private static void leastSumNotTheMostEchoes() {
        motion("less by 2 in 3", new int[] {5, 40}, new int[] {5, 38, 8, 39}, 3);
        motion("less by 2 in -3", new int[] {5, 40}, new int[] {5, 38, 2, 39}, -3);
        motion("less by 2 in 1", new int[] {5, 40}, new int[] {4, 38, 6, 39}, 1);
        motion("as much in 3", new int[] {5, 40}, new int[] {5, 39, 8, 39}, 0);
        motion("one great echo, not two small ones", new int[] {2, 10, 4, 10, 6, 90}, new int[] {2, 10, 4, 10, 8, 90}, 2);
    }

    /** "How much the echo differs, without sign": more and less do not make up for one another. */
    private static void withoutSign() {
        motion("more is as bad as less", new int[] {4, 40, 6, 40}, new int[] {4, 20, 6, 60, 5, 30, 7, 40}, 1);
        motion("10 less is worse than none", new int[] {5, 40}, new int[] {6, 30, 3, 40}, -2);
        motion("10 more in 1 and 40 are as bad as 50 in -2", new int[] {5, 40}, new int[] {6, 50, 3, 40}, 1);
    }

    /** "0 where there is none such": the echo of the one ahead is 0 beyond the first and the last kilometre. */
    private static void zeroWhereThereIsNoneSuch() {
        motion("come to 0", new int[] {}, new int[] {0, 40}, 0);
        motion("come to 0, 1 and 2", new int[] {}, new int[] {0, 40, 1, 40, 2, 40}, 0);
        motion("gone from 0", new int[] {0, 40}, new int[] {}, -1);
        motion("gone from 1", new int[] {1, 40}, new int[] {}, -2);
        motion("gone from 2", new int[] {2, 40}, new int[] {}, -3);
        motion("gone from 3", new int[] {3, 40}, new int[] {}, 0);
        motion("what comes to 0 counts in full", new int[] {5, 40}, new int[] {6, 20, 0, 30, 5, 21}, 0);
        motion("not from the other end", new int[] {9, 40}, new int[] {0, 40, 9, 20}, 0);
        DUES.run("come to 19", "scan(0)", "drops(19, 3, 1, 40)", "scan(0)", "motion() = 0");
        DUES.run("gone from 19", "drops(19, 3, 1, 40)", "scan(0)", "pass(10)", "scan(0)", "motion() = 1");
        DUES.run("gone from 18", "drops(18, 3, 1, 40)", "scan(0)", "pass(10)", "scan(0)", "motion() = 2");
        DUES.run("gone from 17", "drops(17, 2, 1, 40)", "scan(0)", "pass(10)", "scan(0)", "motion() = 3");
        DUES.run("gone from 16", "drops(16, 2, 1, 40)", "scan(0)", "pass(10)", "scan(0)", "motion() = 0");
        DUES.run("from 19 to 0", "drops(19, 3, 1, 40)", "scan(0)", "pass(10)", "drops(0, 0, 1, 40)", "scan(0)", "motion() = 1");
        DUES.run("from 0 to 19", "drops(0, 0, 1, 40)", "scan(0)", "pass(10)", "drops(19, 3, 1, 40)", "scan(0)", "motion() = -1");
    }

    /** "Over all kilometres": the first and the last count like the others. */
    private static void overAllKilometres() {
        motion("0 to 1", new int[] {0, 40}, new int[] {1, 40}, 1);
        motion("1 to 0", new int[] {1, 40}, new int[] {0, 40}, -1);
        motion("stays in 0", new int[] {0, 50, 5, 40}, new int[] {0, 50, 6, 40}, 0);
        DUES.run("18 to 19", "drops(18, 3, 1, 40)", "scan(0)", "pass(10)", "drops(19, 3, 1, 40)", "scan(0)", "motion() = 1");
        DUES.run("19 to 18", "drops(19, 3, 1, 40)", "scan(0)", "pass(10)", "drops(18, 3, 1, 40)", "scan(0)", "motion() = -1");
        DUES.run("19 to 16", "drops(19, 3, 1, 40)", "scan(0)", "pass(10)", "drops(16, 2, 1, 40)", "scan(0)", "motion() = -3");
        DUES.run("16 to 19", "drops(16, 2, 1, 40)", "scan(0)", "pass(10)", "drops(19, 3, 1, 40)", "scan(0)", "motion() = 3");
        DUES.run("stays in 19", "drops(5, 0, 1, 40)", "drops(19, 3, 1, 90)", "scan(0)", "pass(1)", "drops(6, 0, 1, 40)", "drops(19, 3, 1, 90)",
            "scan(0)", "motion() = 0");
    }

    /** "The latest scan" and "the one ahead of it", of however many. */
    private static void latestTwo() {
        DUES.run("of three", "drops(5, 0, 1, 40)", "scan(0)", "pass(1)", "drops(7, 0, 1, 40)", "scan(0)", "motion() = 2", "pass(1)", "drops(6, 0, 1, 40)",
            "scan(0)", "motion() = -1", "scan(0)", "motion() = 0");
        DUES.run("of 30", "28 scan(0)", "drops(5, 0, 1, 40)", "scan(0)", "motion() = 0", "pass(1)", "drops(8, 0, 1, 40)", "scan(0)", "motion() = 3",
            "pass(1)", "scan(0) = tooMany", "motion() = 3");
        DUES.run("a refused one is none", "drops(5, 0, 1, 40)", "scan(0)", "pass(1)", "drops(8, 0, 1, 40)", "scan(0)", "scan(4)", "motion() = 3");
    }

    /** The one ahead may be of another elevation, and the rule has no part in it. */
    private static void otherElevations() {
        DUES.run("1 and 0", "drops(4, 1, 1, 40)", "scan(1)", "drops(6, 0, 1, 40)", "rule(1000)", "scan(0)", "motion() = 2");
    }

    /** "Keeps the echoes of its beam, 0 where it is blocked": so for the motion too. */
    private static void blockedScans() {
        DUES.run("blocked ahead", "drops(7, 0, 1, 40)", "drops(2, 0, 1, 10)", "scan(0)", "hill(6, 1)", "scan(0) = 6", "motion() = 0");
        DUES.run("blocked latest", "drops(2, 0, 1, 40)", "scan(0)", "hill(0, 1)", "scan(0) = 0", "motion() = -3");
        DUES.run("both blocked", "hill(0, 1)", "drops(2, 0, 1, 40)", "scan(0)", "pass(1)", "drops(3, 0, 1, 40)", "scan(0)", "motion() = 0");
    }
}
