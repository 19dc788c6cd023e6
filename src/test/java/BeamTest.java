/** Promises 13 and 14 in ordinary use, and hills in the way of beams. */
public final class BeamTest {
    private static final Dues DUES = new Dues("BeamTest");

    public static void main(String[] args) {
        echoByPhase();
        snowIsQuarteredTogether();
        beyondTheLastLayer();
        hills();
        hillsOfAllHeights();
        seenUnweakened();
        seenBehindEchoes();
        seenOneBehindTheOther();
        seenBlocked();
        DUES.end();
    }

    private static void echoByPhase() {
        int[] power = {0, 1, 64, 729};
        for (int size = 1; size <= 3; size++) {
            Brightband x = new Brightband();
            x.drops(10, 3, size, 5);
            long plain = 5L * power[size];
            DUES.due("water", () -> x.echo(10, 1), plain);
            x.melt(3);
            DUES.due("melting", () -> x.echo(10, 1), 3 * plain);
            x.melt(2);
            DUES.due("snow", () -> x.echo(10, 1), plain / 4);
        }
        Brightband x = new Brightband();
        x.drops(10, 3, 1, 1);
        x.drops(10, 3, 2, 1);
        x.drops(10, 3, 3, 1);
        DUES.due("all sizes together", () -> x.echo(10, 1), 794);
        DUES.due("another kilometre", () -> x.echo(11, 1), 0);
        DUES.due("another elevation", () -> x.echo(10, 2), 0);
    }

    private static void snowIsQuarteredTogether() {
        Brightband x = new Brightband();
        x.melt(0);
        x.drops(10, 1, 1, 3);
        x.drops(10, 1, 3, 1);
        DUES.due("a quarter of 732", () -> x.echo(10, 0), 183);
        x.drops(10, 1, 1, 3);
        DUES.due("a quarter of 735", () -> x.echo(10, 0), 183);
        Brightband y = new Brightband();
        y.melt(0);
        y.drops(10, 1, 1, 3);
        DUES.due("a quarter of 3", () -> y.echo(10, 0), 0);
    }

    private static void beyondTheLastLayer() {
        Brightband x = new Brightband();
        for (int layer = 0; layer < 10; layer++) {
            x.drops(16, layer, 3, 1000);
            x.drops(15, layer, 3, 1000);
        }
        x.drops(17, 0, 3, 1000);
        DUES.due("in the layer 9", () -> x.echo(15, 2), 729000 / 4);
        DUES.due("in the layer 10", () -> x.echo(16, 2), 0);
        DUES.due("in the layer 14", () -> x.echo(16, 3), 0);
        x.hill(16, 9);
        DUES.due("no hill is above that", () -> x.echo(16, 2), 0);
        DUES.due("nor behind it", () -> x.echo(17, 2), 0);
        DUES.due("but lower beams", () -> x.echo(16, 1), -1);
    }

    private static void hills() {
        Brightband x = new Brightband();
        x.drops(10, 3, 2, 1);
        x.hill(10, 3);
        DUES.due("as high as the beam", () -> x.echo(10, 1), 64);
        x.hill(10, 4);
        DUES.due("higher", () -> x.echo(10, 1), -1);
        DUES.due("ahead of the hill", () -> x.echo(9, 1), 0);
        DUES.due("behind it", () -> x.echo(11, 1), -1);
        DUES.due("far behind it, above it", () -> x.echo(19, 1), -1);
        DUES.due("a higher beam", () -> x.echo(19, 2), 0);
        x.hill(10, 0);
        DUES.due("free once more", () -> x.echo(10, 1), 64);
        x.hill(0, 1);
        DUES.due("a hill where the beam begins", () -> x.echo(0, 3), -1);
        DUES.due("blocks all", () -> x.echo(19, 3), -1);
    }

    private static void hillsOfAllHeights() {
        for (int elevation = 0; elevation < 4; elevation++) {
            int e = elevation;
            for (int kilometre = 0; kilometre < 20; kilometre++) {
                int k = kilometre;
                for (int height = 0; height < 10; height++) {
                    Brightband x = new Brightband();
                    x.hill(k, height);
                    boolean isBlocked = height > Beams.LAYERS[e][k];
                    DUES.due("at the hill", () -> x.echo(k, e), isBlocked ? -1 : 0);
                    DUES.due("at the end", () -> x.seen(19, e), isBlocked ? -1 : 0);
                    DUES.due("free kilometres", () -> x.scan(e), isBlocked ? k : 20);
                }
            }
        }
    }

    private static long bits(double value) {
        return Double.doubleToLongBits(value);
    }

    private static void seenUnweakened() {
        for (int many = 1; many <= 1000; many += 37) {
            Brightband x = new Brightband();
            int m = many;
            x.drops(0, 0, 1, m);
            DUES.due("seen " + m, () -> x.seen(0, 2), bits(m));
        }
        Brightband x = new Brightband();
        x.melt(0);
        for (int i = 0; i < 100; i++) {
            x.drops(0, 0, 3, 1000);
        }
        DUES.due("the strongest echo", () -> x.echo(0, 0), 218700000);
        DUES.due("the strongest seen", () -> x.seen(0, 0), bits(218700000.0));
        DUES.due("seen of nothing behind it", () -> x.seen(1, 0), bits(0.0));
    }

    private static void seenBehindEchoes() {
        int[] ahead = {99, 100, 999, 1000};
        double[] due = {7.0, 7 * 0.98, 7 * 0.98, 7 * 0.9};
        for (int i = 0; i < ahead.length; i++) {
            Brightband x = new Brightband();
            x.drops(1, 0, 1, ahead[i]);
            x.drops(2, 0, 1, 7);
            DUES.due("behind " + ahead[i], () -> x.seen(2, 0), bits(due[i]));
            DUES.due("by itself not weakened", () -> x.seen(1, 0), bits(x.echo(1, 0)));
        }
        Brightband x = new Brightband();
        x.drops(0, 0, 1, 1000);
        x.drops(1, 0, 1, 50);
        DUES.due("behind the kilometre 0", () -> x.seen(1, 0), bits(50 * 0.9));
        x.melt(0);
        x.drops(2, 0, 1, 334);
        DUES.due("behind melting ones", () -> x.seen(3, 0), bits(0.0));
        x.drops(3, 0, 1, 1);
        DUES.due("each by the echo of its phase", () -> x.seen(3, 0), bits(3 * 0.9 * 0.98 * 0.9));
    }

    private static void seenOneBehindTheOther() {
        Brightband x = new Brightband();
        double due = 3;
        x.drops(19, 3, 1, 3);
        for (int kilometre = 0; kilometre < 19; kilometre++) {
            boolean isStrong = kilometre % 3 != 0;
            x.drops(kilometre, Beams.LAYERS[0][kilometre], 1, isStrong ? 1000 : 100);
            due = due * (isStrong ? 0.9 : 0.98);
        }
        long dueBits = bits(due);
        DUES.due("behind 19 echoes", () -> x.seen(19, 0), dueBits);
        Brightband y = new Brightband();
        y.drops(19, 3, 1, 1);
        double least = 1;
        for (int kilometre = 0; kilometre < 19; kilometre++) {
            y.drops(kilometre, Beams.LAYERS[0][kilometre], 3, 1000);
            least = least * 0.9;
        }
        long leastBits = bits(least);
        DUES.due("the weakest seen", () -> y.seen(19, 0), leastBits);
    }

    private static void seenBlocked() {
        Brightband x = new Brightband();
        x.drops(3, 0, 1, 1000);
        x.drops(5, 0, 1, 10);
        x.hill(5, 1);
        DUES.due("blocked", () -> x.seen(5, 0), -1);
        DUES.due("ahead of it", () -> x.seen(4, 0), 0);
        x.hill(5, 0);
        DUES.due("not blocked", () -> x.seen(5, 0), bits(9.0));
    }
}
