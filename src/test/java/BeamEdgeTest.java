import java.util.ArrayList;
import java.util.List;

/**
 * The edges that the document names for beams and echoes: promises 4, 13 and 14. Above each test stands the sentence
 * of the document that it is for.
 */
public final class BeamEdgeTest {
    private static final Dues DUES = new Dues("BeamEdgeTest");

    public static void main(String[] args) {
        kilometresAndElevations();
        layerOfTheBeam();
        beyondTheLayerNine();
        noHillAtFirst();
        hillThatIsHigher();
        hillBlocksAllBehind();
        firstOfTwoHills();
        hillsOfNow();
        powerOfSix();
        quarterOfSnow();
        threeTimesMelting();
        strongestEcho();
        seenFromZeroOn();
        seenAtTheThresholds();
        seenByTheEchoOfThePhase();
        seenThresholdIsOfTheEchoNotOfWhatIsSeen();
        seenOneBehindTheOther();
        seenInAllKilometres();
        seenNothing();
        seenBlocked();
        DUES.end();
    }

    private static String bits(double value) {
        return " = " + Double.doubleToLongBits(value);
    }

    /** "IndexOutOfBoundsException: there is no such kilometre"; "elevation: 0 to 3". */
    private static void kilometresAndElevations() {
        for (String name : new String[] {"echo", "seen"}) {
            DUES.run("the ends", name + "(0, 0) = 0", name + "(19, 0) = 0", name + "(0, 3) = 0", name + "(19, 3) = 0");
            DUES.run("beyond the ends", name + "(-1, 0) = outside", name + "(20, 0) = outside", name + "(0, -1) = illegal",
                name + "(0, 4) = illegal", name + "(-1, -1) = outside", name + "(20, 4) = outside", name + "(-1, 4) = outside",
                name + "(20, -1) = outside", name + "(19, 4) = illegal", name + "(19, -1) = illegal");
            DUES.run("beyond the ends, blocked", "hill(0, 9)", name + "(20, 0) = outside", name + "(19, 4) = illegal", name + "(19, 0) = -1");
        }
    }

    /** "The elevation times the kilometre, divided by 4, and the kilometre times itself, divided by 100, together, each rounded down." */
    private static void layerOfTheBeam() {
        for (int elevation = 0; elevation < 4; elevation++) {
            for (int kilometre = 0; kilometre < 20; kilometre++) {
                List<String> rows = new ArrayList<>(List.of("melt(9)"));
                for (int layer = 0; layer < 10; layer++) {
                    rows.add("drops(" + kilometre + ", " + layer + ", 1, " + (layer + 1) + ")");
                }
                int at = Beams.LAYERS[elevation][kilometre];
                int due = at > 9 ? 0 : at == 9 ? 30 : at + 1;
                rows.add("echo(" + kilometre + ", " + elevation + ") = " + due);
                rows.add("seen(" + kilometre + ", " + elevation + ")" + bits(due));
                rows.add("scan(" + elevation + ") = 20");
                rows.add("rainBy(" + kilometre + ", 1) = " + due);
                DUES.run("the beam " + elevation, rows);
            }
        }
    }

    /** "Beyond the layer 9 it is 0." */
    private static void beyondTheLayerNine() {
        DUES.run("the layer 9", "melt(0)", "drops(15, 9, 1, 40)", "echo(15, 2) = 10", "melt(9)", "echo(15, 2) = 120", "echo(16, 2) = 0");
        DUES.run("the layer 10", "drops(16, 9, 3, 1000)", "drops(16, 0, 3, 1000)", "drops(17, 0, 3, 1000)", "echo(16, 2) = 0", "seen(16, 2) = 0",
            "scan(2) = 20", "rain(16) = 0");
        DUES.run("the layer 17", "drops(19, 9, 3, 1000)", "drops(19, 7, 3, 1000)", "echo(19, 3) = 0", "seen(19, 3) = 0");
        DUES.run("none there, though blocked", "hill(11, 9)", "echo(19, 3) = 0", "hill(10, 9)", "echo(19, 3) = -1", "seen(19, 3) = -1");
    }

    /** "A hill of a kilometre has a height, 0 to 9, 0 at first." */
    private static void noHillAtFirst() {
        DUES.run("no hill", "scan(0) = 20", "scan(1) = 20", "scan(2) = 20", "scan(3) = 20", "echo(19, 0) = 0");
        DUES.run("the least", "hill(9, 0) = 0", "echo(9, 0) = 0", "hill(9, 1) = 0", "echo(9, 0) = -1", "hill(9, 0) = 1", "echo(9, 0) = 0");
        DUES.run("the greatest", "hill(15, 9) = 0", "echo(15, 2) = 0", "echo(15, 1) = -1", "hill(15, 10) = illegal", "hill(15, -1) = illegal",
            "hill(15, 9) = 9");
    }

    /** "A beam is blocked in a kilometre and all behind it by a hill there that is higher than the layer in which it is there." */
    private static void hillThatIsHigher() {
        for (int elevation = 0; elevation < 4; elevation++) {
            for (int kilometre = 0; kilometre < 20; kilometre++) {
                int at = Beams.LAYERS[elevation][kilometre];
                String rest = "(" + kilometre + ", " + elevation + ") = ";
                if (at <= 9) {
                    DUES.run("as high", "hill(" + kilometre + ", " + at + ")", "echo" + rest + 0, "seen" + rest + 0, "scan(" + elevation + ") = 20");
                } else {
                    DUES.run("not as high", "hill(" + kilometre + ", 9)", "echo" + rest + 0, "seen" + rest + 0, "scan(" + elevation + ") = 20");
                }
                if (at < 9) {
                    DUES.run("higher", "hill(" + kilometre + ", " + (at + 1) + ")", "echo" + rest + -1, "seen" + rest + -1,
                        "scan(" + elevation + ") = " + kilometre);
                }
            }
        }
    }

    /** "And all behind it", not ahead of it. */
    private static void hillBlocksAllBehind() {
        for (int hill = 0; hill < 20; hill++) {
            List<String> rows = new ArrayList<>(List.of("hill(" + hill + ", 9)"));
            for (int kilometre = 0; kilometre < 20; kilometre++) {
                for (int elevation = 0; elevation < 4; elevation++) {
                    boolean isBlocked = kilometre >= hill && Beams.LAYERS[elevation][hill] < 9;
                    rows.add("echo(" + kilometre + ", " + elevation + ") = " + (isBlocked ? -1 : 0));
                    rows.add("seen(" + kilometre + ", " + elevation + ") = " + (isBlocked ? -1 : 0));
                }
            }
            DUES.run("the hill " + hill, rows);
        }
    }

    /** Two hills: the beam is blocked from the first one on that is higher than it. */
    private static void firstOfTwoHills() {
        DUES.run("both", "hill(12, 9)", "hill(5, 9)", "scan(0) = 5", "echo(4, 0) = 0", "echo(5, 0) = -1", "hill(5, 0) = 9", "scan(0) = 12",
            "echo(11, 0) = 0", "echo(12, 0) = -1");
        DUES.run("one too low", "hill(5, 1)", "hill(12, 9)", "scan(1) = 12", "scan(0) = 5", "echo(5, 1) = 0");
    }

    /** "Returns the echo of a beam now." */
    private static void hillsOfNow() {
        DUES.run("now", "drops(4, 0, 1, 7)", "echo(4, 0) = 7", "hill(3, 1)", "echo(4, 0) = -1", "hill(3, 0)", "echo(4, 0) = 7", "pass(1)",
            "echo(4, 0) = 0");
    }

    /** "The size to the power of 6", "over all drops there". */
    private static void powerOfSix() {
        DUES.run("each", "drops(4, 0, 1, 1)", "echo(4, 0) = 1", "drops(4, 0, 2, 1)", "echo(4, 0) = 65", "drops(4, 0, 3, 1)", "echo(4, 0) = 794",
            "drops(4, 0, 3, 2)", "echo(4, 0) = 2252", "drops(4, 1, 3, 2)", "drops(5, 0, 3, 2)", "echo(4, 0) = 2252", "echo(3, 0) = 0");
    }

    /** "Of SNOW a quarter of that all together, rounded down." */
    private static void quarterOfSnow() {
        for (int many = 1; many <= 9; many++) {
            DUES.run("a quarter of " + many, "melt(0)", "drops(10, 1, 1, " + many + ")", "echo(10, 0) = " + many / 4);
        }
        DUES.run("of all sizes together", "melt(0)", "drops(10, 1, 1, 3)", "drops(10, 1, 3, 1)", "echo(10, 0) = 183", "drops(10, 1, 3, 2)",
            "echo(10, 0) = 547", "drops(10, 1, 2, 1)", "echo(10, 0) = 563", "seen(10, 0)" + bits(563));
        DUES.run("in the layer above the melting one", "melt(0)", "drops(10, 1, 1, 8)", "echo(10, 0) = 2", "melt(1)", "echo(10, 0) = 24", "melt(2)",
            "echo(10, 0) = 8");
    }

    /** "Of MELTING drops 3 times as much as of WATER." */
    private static void threeTimesMelting() {
        DUES.run("in the lowest layer", "drops(4, 0, 2, 1)", "echo(4, 0) = 64", "melt(0)", "echo(4, 0) = 192", "melt(1)", "echo(4, 0) = 64");
        DUES.run("in the highest layer", "drops(15, 9, 2, 1)", "echo(15, 2) = 16", "melt(9)", "echo(15, 2) = 192", "melt(8)", "echo(15, 2) = 16");
        DUES.run("nothing", "melt(0)", "echo(4, 0) = 0", "seen(4, 0) = 0");
    }

    /** All drops that there can be, in one place where they melt. */
    private static void strongestEcho() {
        DUES.run("the strongest", "melt(0)", "100 drops(1, 0, 3, 1000)", "echo(1, 0) = 218700000", "seen(1, 0)" + bits(218700000), "rule(1)",
            "30 scan(0)", "rain(1) = 6561000000", "rainBy(1, 1) = 6561000000", "rainBy(1, 1000) = 6561000", "motion() = 0");
    }

    /** "Made less for each kilometre ahead, from 0 on": neither for itself nor for those behind. */
    private static void seenFromZeroOn() {
        DUES.run("0 has none ahead", "drops(0, 0, 1, 1000)", "drops(1, 0, 1, 1000)", "seen(0, 0)" + bits(1000));
        DUES.run("1 has 0 ahead", "drops(0, 0, 1, 1000)", "drops(1, 0, 1, 1000)", "drops(2, 0, 1, 1000)", "seen(1, 0)" + bits(1000 * 0.9));
        DUES.run("19 has 18 ahead", "drops(18, 3, 1, 100)", "drops(19, 3, 1, 1000)", "seen(19, 0)" + bits(1000 * 0.98), "seen(18, 0)" + bits(100));
        DUES.run("by drops of its own beam alone", "drops(4, 0, 1, 1000)", "drops(5, 1, 1, 50)", "seen(5, 1)" + bits(50));
    }

    /** "Times 0.9, if the echo there is 1000 or more, otherwise times 0.98, if it is 100 or more." */
    private static void seenAtTheThresholds() {
        int[] ahead = {1, 99, 100, 101, 999, 1000};
        double[] times = {1, 1, 0.98, 0.98, 0.98, 0.9};
        for (int i = 0; i < ahead.length; i++) {
            DUES.run("behind " + ahead[i], "drops(3, 0, 1, " + ahead[i] + ")", "drops(8, 0, 1, 77)", "seen(8, 0)" + bits(77 * times[i]));
        }
        DUES.run("behind 1001", "drops(3, 0, 1, 1000)", "drops(3, 0, 1, 1)", "drops(8, 0, 1, 77)", "seen(8, 0)" + bits(77 * 0.9));
    }

    /** "The echo there" is a quarter for snow and 3 times as much for melting drops. */
    private static void seenByTheEchoOfThePhase() {
        String[] snow = {"396", "399", "400"};
        String[] melting = {"33", "34", "333", "334"};
        double[] snowTimes = {1, 1, 0.98};
        double[] meltingTimes = {1, 0.98, 0.98, 0.9};
        for (int i = 0; i < snow.length; i++) {
            DUES.run("behind snow", "melt(0)", "drops(10, 1, 1, " + snow[i] + ")", "drops(11, 1, 1, 40)", "seen(11, 0)" + bits(10 * snowTimes[i]));
        }
        for (int i = 0; i < melting.length; i++) {
            DUES.run("behind melting drops", "melt(0)", "drops(3, 0, 1, " + melting[i] + ")", "drops(8, 0, 1, 40)",
                "seen(8, 0)" + bits(120 * meltingTimes[i]));
        }
        DUES.run("behind snow just below 1000", "melt(0)", "4 drops(10, 1, 1, 999)", "drops(10, 1, 1, 3)", "drops(11, 1, 1, 40)", "echo(10, 0) = 999",
            "seen(11, 0)" + bits(10 * 0.98), "drops(10, 1, 1, 1)", "echo(10, 0) = 1000", "seen(11, 0)" + bits(10 * 0.9));
    }

    /** An echo of 1000 or more counts as such though less of it is seen behind another one. */
    private static void seenThresholdIsOfTheEchoNotOfWhatIsSeen() {
        DUES.run("1000 behind 1000", "drops(1, 0, 1, 1000)", "drops(2, 0, 1, 1000)", "drops(3, 0, 1, 1000)", "seen(3, 0)" + bits(1000 * 0.9 * 0.9));
        DUES.run("100 behind 1000", "drops(1, 0, 1, 1000)", "drops(2, 0, 1, 100)", "drops(3, 0, 1, 7)", "seen(3, 0)" + bits(7 * 0.9 * 0.98));
    }

    /** "One behind the other": in the order of the kilometres, each upon what the ones ahead have left. */
    private static void seenOneBehindTheOther() {
        DUES.run("strong ones first", "drops(0, 0, 1, 1000)", "drops(1, 0, 1, 1000)", "drops(2, 0, 1, 100)", "drops(3, 0, 1, 7)",
            "seen(3, 0)" + bits(7 * 0.9 * 0.9 * 0.98));
        DUES.run("strong ones last", "drops(0, 0, 1, 100)", "drops(1, 0, 1, 1000)", "drops(2, 0, 1, 1000)", "drops(3, 0, 1, 7)",
            "seen(3, 0)" + bits(7 * 0.98 * 0.9 * 0.9));
    }

    /** Behind as many as there can be, strong, middling and weak ones in turns. */
    private static void seenInAllKilometres() {
        int[] many = {1000, 100, 99};
        double[] times = {0.9, 0.98, 1};
        for (int turn = 0; turn < 3; turn++) {
            List<String> rows = new ArrayList<>();
            for (int kilometre = 0; kilometre < 20; kilometre++) {
                int kind = (kilometre * kilometre + turn) % 3;
                rows.add("drops(" + kilometre + ", " + Beams.LAYERS[0][kilometre] + ", 1, " + many[kind] + ")");
            }
            for (int kilometre = 0; kilometre < 20; kilometre++) {
                double left = many[(kilometre * kilometre + turn) % 3];
                for (int ahead = 0; ahead < kilometre; ahead++) {
                    left = left * times[(ahead * ahead + turn) % 3];
                }
                rows.add("seen(" + kilometre + ", 0)" + bits(left));
            }
            DUES.run("turn " + turn, rows);
        }
    }

    /** An echo of 0 is seen as the double 0, whose bits are 0. */
    private static void seenNothing() {
        DUES.run("nothing", "seen(0, 0) = 0", "seen(19, 3) = 0", "drops(0, 0, 3, 1000)", "seen(1, 0) = 0", "seen(19, 0) = 0");
        DUES.run("one drop", "drops(0, 0, 1, 1)", "seen(0, 0)" + bits(1));
    }

    /** "Returns the bits; NONE where the beam is blocked." */
    private static void seenBlocked() {
        DUES.run("blocked", "drops(3, 0, 1, 1000)", "drops(5, 0, 1, 10)", "hill(5, 1)", "seen(5, 0) = -1", "seen(6, 0) = -1", "seen(3, 0)" + bits(1000),
            "seen(4, 0) = 0", "hill(5, 0)", "seen(5, 0)" + bits(9), "hill(0, 1)", "seen(5, 0) = -1", "seen(0, 0) = -1");
    }
}
