/** Wrong inputs of every call: which exception is thrown, which of several, and that nothing changes. */
public final class RefusalTest {
    private static final Dues DUES = new Dues("RefusalTest");
    private static final int[] NO_KILOMETRES = {-1, 20, 21, Integer.MIN_VALUE, Integer.MAX_VALUE};
    private static final int[] NO_LAYERS = {-1, 10, 11, Integer.MIN_VALUE, Integer.MAX_VALUE};
    private static final int[] NO_SIZES = {0, 4, -1, Integer.MIN_VALUE, Integer.MAX_VALUE};
    private static final int[] NO_RULES = {0, 1001, -1, Integer.MIN_VALUE, Integer.MAX_VALUE};
    private static final int[] NO_PERIODS = {-1, 61, Integer.MIN_VALUE, Integer.MAX_VALUE};
    private static final int[] NO_MINUTES = {0, 61, -1, Integer.MIN_VALUE, Integer.MAX_VALUE};
    private static final int[] NO_QUARTERS = {-1, 4, Integer.MIN_VALUE, Integer.MAX_VALUE};

    public static void main(String[] args) {
        Brightband x = full();
        String before = stateOf(x);
        kilometres(x);
        layers(x);
        others(x);
        firstNamed(x);
        DUES.compare("the state after all refusals", stateOf(x), before);
        DUES.compare("the rule after all refusals", "" + x.rule(10), "20");
        DUES.compare("the drift after all refusals", "" + x.drift(0, true), "7");
        DUES.compare("the melting layer after all refusals", "" + x.melt(5), "4");
        DUES.compare("the minute after all refusals", "" + x.pass(1), "4");
        DUES.end();
    }

    private static Brightband full() {
        Brightband x = new Brightband();
        x.drops(0, 9, 1, 10);
        x.drops(19, 5, 2, 10);
        x.drops(5, 0, 3, 10);
        x.melt(4);
        x.hill(15, 1);
        x.hill(19, 9);
        x.gauge(5, true);
        x.clog(5, true);
        x.rule(20);
        x.scan(0);
        x.drift(7, true);
        x.pass(3);
        x.scan(1);
        return x;
    }

    private static String stateOf(Brightband x) {
        StringBuilder text = new StringBuilder();
        for (int k = 0; k < 20; k++) {
            for (int l = 0; l < 10; l++) {
                text.append(x.count(k, l, 1)).append(' ').append(x.count(k, l, 2)).append(' ').append(x.count(k, l, 3)).append(' ');
            }
            for (int e = 0; e < 4; e++) {
                text.append(x.echo(k, e)).append(' ').append(x.seen(k, e)).append(' ');
            }
            text.append(x.rain(k)).append(' ').append(x.rainBy(k, 1)).append(' ').append(x.ground(k)).append(' ').append(x.groundAnew(k)).append(' ');
        }
        for (int what = 0; what < 4; what++) {
            text.append(x.water(what)).append(' ');
        }
        return text.append(x.collected(5)).append(' ').append(x.motion()).toString();
    }

    private static void kilometres(Brightband x) {
        for (int k : NO_KILOMETRES) {
            DUES.outside("drops of " + k, () -> x.drops(k, 0, 1, 1));
            DUES.outside("hill of " + k, () -> x.hill(k, 1));
            DUES.outside("gauge of " + k, () -> x.gauge(k, true));
            DUES.outside("no gauge of " + k, () -> x.gauge(k, false));
            DUES.outside("clog of " + k, () -> x.clog(k, true));
            DUES.outside("count of " + k, () -> x.count(k, 0, 1));
            DUES.outside("echo of " + k, () -> x.echo(k, 0));
            DUES.outside("seen of " + k, () -> x.seen(k, 0));
            DUES.outside("rain of " + k, () -> x.rain(k));
            DUES.outside("rainBy of " + k, () -> x.rainBy(k, 1));
            DUES.outside("collected of " + k, () -> x.collected(k));
            DUES.outside("ground of " + k, () -> x.ground(k));
            DUES.outside("groundAnew of " + k, () -> x.groundAnew(k));
        }
        DUES.outside("clog without a gauge", () -> x.clog(6, true));
        DUES.outside("collected without a gauge", () -> x.collected(6));
    }

    private static void layers(Brightband x) {
        for (int l : NO_LAYERS) {
            DUES.outside("drops in " + l, () -> x.drops(0, l, 1, 1));
            DUES.outside("melt in " + l, () -> x.melt(l));
            DUES.outside("count in " + l, () -> x.count(0, l, 1));
            DUES.outside("phase in " + l, () -> x.phase(l));
            DUES.illegal("hill as high as " + l, () -> x.hill(0, l));
        }
    }

    private static void others(Brightband x) {
        for (int s : NO_SIZES) {
            DUES.illegal("drops of the size " + s, () -> x.drops(0, 0, s, 1));
            DUES.illegal("count of the size " + s, () -> x.count(0, 0, s));
        }
        for (int r : NO_RULES) {
            DUES.illegal("drops as many as " + r, () -> x.drops(0, 0, 1, r));
            DUES.illegal("rule " + r, () -> x.rule(r));
            DUES.illegal("rainBy " + r, () -> x.rainBy(0, r));
        }
        for (int p : NO_PERIODS) {
            DUES.illegal("drift by " + p, () -> x.drift(p, false));
        }
        for (int m : NO_MINUTES) {
            DUES.illegal("pass " + m, () -> x.pass(m));
        }
        for (int q : NO_QUARTERS) {
            DUES.illegal("scan of " + q, () -> x.scan(q));
            DUES.illegal("echo of the beam " + q, () -> x.echo(0, q));
            DUES.illegal("seen of the beam " + q, () -> x.seen(0, q));
            DUES.illegal("water " + q, () -> x.water(q));
        }
    }

    private static void firstNamed(Brightband x) {
        DUES.outside("drops, all wrong", () -> x.drops(20, 10, 4, 0));
        DUES.outside("drops, layer ahead of size", () -> x.drops(0, 10, 4, 1));
        DUES.outside("drops, layer ahead of many", () -> x.drops(0, 10, 1, 0));
        DUES.outside("drops, kilometre ahead of many", () -> x.drops(-1, 0, 1, 1001));
        DUES.outside("hill, all wrong", () -> x.hill(20, 10));
        DUES.outside("count, all wrong", () -> x.count(20, 10, 0));
        DUES.outside("count, layer ahead of size", () -> x.count(0, -1, 0));
        DUES.outside("echo, all wrong", () -> x.echo(20, 4));
        DUES.outside("seen, all wrong", () -> x.seen(-1, -1));
        DUES.outside("rainBy, all wrong", () -> x.rainBy(20, 0));
    }
}
