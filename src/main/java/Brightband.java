/**
 * Rain seen by radio: drops of three sizes fall through ten layers above twenty kilometres, and beams are sent
 * through them. What the numbers mean stands in the document; README.md tells how the class is used.
 */
public final class Brightband {
    public static final int NONE = -1;
    public static final int SNOW = 0, MELTING = 1, WATER = 2;

    private static final int KILOMETRES = 20;
    private static final int LAYERS = 10;
    private static final int SIZES = 3;
    private static final int MOST_DROPS = 1000;
    private static final int MOST_PUTS = 100;
    private static final int HIGHEST_HILL = 9;
    private static final int LONGEST_PERIOD = 60;
    private static final int LONGEST_PASS = 60;
    private static final int LAST_MINUTE = 600;
    private static final int HIGHEST_ELEVATION = 3;
    private static final int MOST_SCANS = 30;
    private static final int HIGHEST_RULE = 1000;
    private static final int FARTHEST_MOTION = 3;
    private static final int WATER_KINDS = 4;
    private static final int STRONG_ECHO = 1000;
    private static final int MIDDLING_ECHO = 100;

    private static final int FRACTION_BITS = 52;
    private static final int EXPONENT_BIAS = 1023;
    private static final long LEADING_BIT = 1L << FRACTION_BITS;

    private final Air air = new Air();
    private final Puts puts = new Puts();
    private final Past past = new Past();
    private final Gauges gauges = new Gauges();
    private final Scans scans = new Scans();
    private final int[] hills = new int[KILOMETRES];
    private final long[] grounds = new long[KILOMETRES];
    private int meltingLayer = 5;
    private int driftPeriod = 0;
    private boolean isDriftUp = false;
    private int minute = 0;
    private int ruleNow = 10;
    private long waterPut = 0;
    private long waterLeft = 0;

    public Brightband() {
    }

    // ---- the air, the ground

    public int drops(int kilometre, int layer, int size, int many)
            throws IndexOutOfBoundsException, IllegalArgumentException, IllegalStateException {
        requireKilometre(kilometre);
        requireLayer(layer);
        requireRange(size, 1, SIZES);
        requireRange(many, 1, MOST_DROPS);
        if (puts.made >= MOST_PUTS) {
            throw new IllegalStateException("drops have been put into the air 100 times");
        }
        air.add(kilometre, layer, size, many);
        puts.keep(kilometre, layer, size, many, minute);
        waterPut += waterOf(size, many);
        return air.manyAt(kilometre, layer, size);
    }

    public int melt(int layer) throws IndexOutOfBoundsException {
        requireLayer(layer);
        int before = meltingLayer;
        meltingLayer = layer;
        return before;
    }

    public int hill(int kilometre, int height) throws IndexOutOfBoundsException, IllegalArgumentException {
        requireKilometre(kilometre);
        requireRange(height, 0, HIGHEST_HILL);
        int before = hills[kilometre];
        hills[kilometre] = height;
        return before;
    }

    public int drift(int period, boolean isUp) throws IllegalArgumentException {
        requireRange(period, 0, LONGEST_PERIOD);
        int before = driftPeriod;
        driftPeriod = period;
        isDriftUp = isUp;
        return before;
    }

    public boolean gauge(int kilometre, boolean is) throws IndexOutOfBoundsException {
        requireKilometre(kilometre);
        boolean was = gauges.isUp(kilometre);
        if (was != is) {
            gauges.change(kilometre, is);
        }
        return was;
    }

    public boolean clog(int kilometre, boolean is) throws IndexOutOfBoundsException {
        requireKilometre(kilometre);
        requireGauge(kilometre);
        boolean was = gauges.isClogged(kilometre);
        gauges.setClogged(kilometre, is);
        return was;
    }

    public int pass(int minutes) throws IllegalArgumentException, IllegalStateException {
        requireRange(minutes, 1, LONGEST_PASS);
        if (minutes > LAST_MINUTE - minute) {
            throw new IllegalStateException("the minute would be above 600");
        }
        for (int i = 0; i < minutes; i++) {
            passOne();
        }
        return minute;
    }

    // ---- scans

    public int scan(int elevation) throws IllegalArgumentException, IllegalStateException {
        requireRange(elevation, 0, HIGHEST_ELEVATION);
        if (scans.made >= MOST_SCANS) {
            throw new IllegalStateException("there are 30 scans");
        }
        int reach = reachOf(elevation);
        scans.begin(ruleNow);
        for (int kilometre = 0; kilometre < reach; kilometre++) {
            scans.setLatest(kilometre, echoInBeam(kilometre, elevation));
        }
        return reach;
    }

    public int rule(int rule) throws IllegalArgumentException {
        requireRange(rule, 1, HIGHEST_RULE);
        int before = ruleNow;
        ruleNow = rule;
        return before;
    }

    // ---- questions

    public int count(int kilometre, int layer, int size) throws IndexOutOfBoundsException, IllegalArgumentException {
        requireKilometre(kilometre);
        requireLayer(layer);
        requireRange(size, 1, SIZES);
        return air.manyAt(kilometre, layer, size);
    }

    public int phase(int layer) throws IndexOutOfBoundsException {
        requireLayer(layer);
        return phaseIn(layer, meltingLayer);
    }

    public long echo(int kilometre, int elevation) throws IndexOutOfBoundsException, IllegalArgumentException {
        requireKilometre(kilometre);
        requireRange(elevation, 0, HIGHEST_ELEVATION);
        return kilometre < reachOf(elevation) ? echoInBeam(kilometre, elevation) : NONE;
    }

    public long seen(int kilometre, int elevation) throws IndexOutOfBoundsException, IllegalArgumentException {
        requireKilometre(kilometre);
        requireRange(elevation, 0, HIGHEST_ELEVATION);
        return kilometre < reachOf(elevation) ? bitsOf(weakenedEcho(kilometre, elevation)) : NONE;
    }

    public long rain(int kilometre) throws IndexOutOfBoundsException {
        requireKilometre(kilometre);
        long sum = 0;
        for (int i = 0; i < scans.made; i++) {
            sum += rainOf(scans.echoAt(i, kilometre), scans.ruleAt(i));
        }
        return sum;
    }

    public long rainBy(int kilometre, int rule) throws IndexOutOfBoundsException, IllegalArgumentException {
        requireKilometre(kilometre);
        requireRange(rule, 1, HIGHEST_RULE);
        long sum = 0;
        for (int i = 0; i < scans.made; i++) {
            sum += rainOf(scans.echoAt(i, kilometre), rule);
        }
        return sum;
    }

    public int motion() throws IllegalStateException {
        if (scans.made < 2) {
            throw new IllegalStateException("there are not two scans");
        }
        int best = 0;
        long least = scans.differenceBy(0);
        // Nearest to 0 first, below 0 before above: a later one must be truly less.
        for (int far = 1; far <= FARTHEST_MOTION; far++) {
            long below = scans.differenceBy(-far);
            if (below < least) {
                least = below;
                best = -far;
            }
            long above = scans.differenceBy(far);
            if (above < least) {
                least = above;
                best = far;
            }
        }
        return best;
    }

    public long collected(int kilometre) throws IndexOutOfBoundsException {
        requireKilometre(kilometre);
        requireGauge(kilometre);
        return gauges.contentOf(kilometre);
    }

    public long ground(int kilometre) throws IndexOutOfBoundsException {
        requireKilometre(kilometre);
        return grounds[kilometre];
    }

    public long groundAnew(int kilometre) throws IndexOutOfBoundsException {
        requireKilometre(kilometre);
        long sum = 0;
        for (int i = 0; i < puts.made; i++) {
            if (landingOf(i) == kilometre) {
                sum += puts.waterAt(i);
            }
        }
        return sum;
    }

    public long water(int what) throws IllegalArgumentException {
        requireRange(what, 0, WATER_KINDS - 1);
        switch (what) {
            case 0:
                return waterPut;
            case 1:
                return air.allWater();
            case 2:
                return waterOnGround();
            default:
                return waterLeft;
        }
    }

    // ---- what calls are refused for

    private static void requireKilometre(int kilometre) {
        if (kilometre < 0 || kilometre >= KILOMETRES) {
            throw new IndexOutOfBoundsException("there is no such kilometre");
        }
    }

    private static void requireLayer(int layer) {
        if (layer < 0 || layer >= LAYERS) {
            throw new IndexOutOfBoundsException("there is no such layer");
        }
    }

    private void requireGauge(int kilometre) {
        if (!gauges.isUp(kilometre)) {
            throw new IndexOutOfBoundsException("there is no such gauge");
        }
    }

    private static void requireRange(int value, int least, int most) {
        if (value < least || value > most) {
            throw new IllegalArgumentException("an argument is out of its range");
        }
    }

    // ---- drops and water

    private static int phaseIn(int layer, int melting) {
        if (layer > melting) {
            return SNOW;
        }
        return layer == melting ? MELTING : WATER;
    }

    private static int fallOf(int layer, int size, int melting) {
        return phaseIn(layer, melting) == SNOW ? 1 : size;
    }

    private static long waterOf(int size, int many) {
        return (long) size * size * size * many;
    }

    private long waterOnGround() {
        long sum = 0;
        for (int kilometre = 0; kilometre < KILOMETRES; kilometre++) {
            sum += grounds[kilometre];
        }
        return sum;
    }

    // ---- minutes

    private void passOne() {
        minute++;
        int step = stepOf(minute);
        past.keep(minute, meltingLayer, step);
        for (int kilometre = 0; kilometre < KILOMETRES; kilometre++) {
            long landed = air.letFall(kilometre, meltingLayer);
            grounds[kilometre] += landed;
            gauges.collect(kilometre, landed);
        }
        if (step != 0) {
            waterLeft += air.moveAll(step);
        }
    }

    /** By how many kilometres the drift takes all drops in a minute. */
    private int stepOf(int number) {
        if (driftPeriod == 0 || number % driftPeriod != 0) {
            return 0;
        }
        return isDriftUp ? 1 : -1;
    }

    /** On the ground of which kilometre the drops of a put are by now, found from the past alone; NONE if nowhere. */
    private int landingOf(int put) {
        int kilometre = puts.kilometreAt(put);
        int layer = puts.layerAt(put);
        int size = puts.sizeAt(put);
        for (int number = puts.minuteAt(put) + 1; number <= minute; number++) {
            layer -= fallOf(layer, size, past.meltingIn(number));
            if (layer < 0) {
                return kilometre;
            }
            kilometre += past.stepIn(number);
            if (kilometre < 0 || kilometre >= KILOMETRES) {
                return NONE;
            }
        }
        return NONE;
    }

    // ---- beams

    private static int layerOfBeam(int kilometre, int elevation) {
        return elevation * kilometre / 4 + kilometre * kilometre / 100;
    }

    /** In how many kilometres a beam is not blocked: they are the first ones, for a hill blocks all behind it. */
    private int reachOf(int elevation) {
        for (int kilometre = 0; kilometre < KILOMETRES; kilometre++) {
            if (hills[kilometre] > layerOfBeam(kilometre, elevation)) {
                return kilometre;
            }
        }
        return KILOMETRES;
    }

    private long echoInBeam(int kilometre, int elevation) {
        int layer = layerOfBeam(kilometre, elevation);
        long plain = air.plainEcho(kilometre, layer);
        int what = phaseIn(layer, meltingLayer);
        if (what == SNOW) {
            return plain / 4;
        }
        return what == MELTING ? plain * 3 : plain;
    }

    private double weakenedEcho(int kilometre, int elevation) {
        double left = (double) echoInBeam(kilometre, elevation);
        for (int ahead = 0; ahead < kilometre; ahead++) {
            long there = echoInBeam(ahead, elevation);
            if (there >= STRONG_ECHO) {
                left = left * 0.9;
            } else if (there >= MIDDLING_ECHO) {
                left = left * 0.98;
            }
        }
        return left;
    }

    /**
     * The bits of a double that is 0 or more and less than the leading bit, as every echo is. Doubling it changes
     * nothing but its exponent, until all of its fraction stands before the point.
     */
    private static long bitsOf(double value) {
        if (value <= 0.0) {
            return 0L;
        }
        double doubled = value;
        long exponent = EXPONENT_BIAS + FRACTION_BITS;
        while (doubled < (double) LEADING_BIT && exponent > 0) {
            doubled = doubled * 2.0;
            exponent--;
        }
        return (exponent << FRACTION_BITS) + ((long) doubled - LEADING_BIT);
    }

    private static long rainOf(long echo, int rule) {
        return rule > 0 ? echo / rule : 0L;
    }

    /** The drops in the air, by kilometre, layer and size. */
    private static final class Air {
        private final int[] counts = new int[KILOMETRES * LAYERS * SIZES];

        /** Where a count stands; NONE if there is no such kilometre, layer or size. */
        private static int slotOf(int kilometre, int layer, int size) {
            if (kilometre < 0 || kilometre >= KILOMETRES || layer < 0 || layer >= LAYERS || size < 1 || size > SIZES) {
                return NONE;
            }
            return (kilometre * LAYERS + layer) * SIZES + size - 1;
        }

        int manyAt(int kilometre, int layer, int size) {
            int slot = slotOf(kilometre, layer, size);
            return slot == NONE ? 0 : counts[slot];
        }

        void add(int kilometre, int layer, int size, int many) {
            int slot = slotOf(kilometre, layer, size);
            if (slot != NONE) {
                counts[slot] += many;
            }
        }

        private int takeAll(int kilometre, int layer, int size) {
            int slot = slotOf(kilometre, layer, size);
            if (slot == NONE) {
                return 0;
            }
            int many = counts[slot];
            counts[slot] = 0;
            return many;
        }

        /** Lets the drops above a kilometre fall for a minute; answers the water that comes to the ground. */
        long letFall(int kilometre, int melting) {
            long landed = 0;
            // From the lowest layer up, so that no drop falls twice.
            for (int layer = 0; layer < LAYERS; layer++) {
                for (int size = 1; size <= SIZES; size++) {
                    int many = takeAll(kilometre, layer, size);
                    int below = layer - fallOf(layer, size, melting);
                    if (below < 0) {
                        landed += waterOf(size, many);
                    } else {
                        add(kilometre, below, size, many);
                    }
                }
            }
            return landed;
        }

        /** Moves all drops a kilometre up (1) or down (-1) by numbers; answers the water that has left. */
        long moveAll(int step) {
            long left = 0;
            // The kilometres in front go first, so that no drop goes twice.
            for (int i = 0; i < KILOMETRES; i++) {
                int from = step > 0 ? KILOMETRES - 1 - i : i;
                left += moveFrom(from, from + step);
            }
            return left;
        }

        private long moveFrom(int from, int to) {
            long left = 0;
            for (int layer = 0; layer < LAYERS; layer++) {
                for (int size = 1; size <= SIZES; size++) {
                    int many = takeAll(from, layer, size);
                    if (to < 0 || to >= KILOMETRES) {
                        left += waterOf(size, many);
                    } else {
                        add(to, layer, size, many);
                    }
                }
            }
            return left;
        }

        /** The echo of the drops in a place as if they were water; 0 beyond the last layer. */
        long plainEcho(int kilometre, int layer) {
            long sum = 0;
            for (int size = 1; size <= SIZES; size++) {
                long cube = (long) size * size * size;
                sum += cube * cube * manyAt(kilometre, layer, size);
            }
            return sum;
        }

        long allWater() {
            long sum = 0;
            for (int kilometre = 0; kilometre < KILOMETRES; kilometre++) {
                for (int layer = 0; layer < LAYERS; layer++) {
                    for (int size = 1; size <= SIZES; size++) {
                        sum += waterOf(size, manyAt(kilometre, layer, size));
                    }
                }
            }
            return sum;
        }
    }

    /** Which drops were put into the air together, and in which minute. */
    private static final class Puts {
        private final int[] kilometres = new int[MOST_PUTS];
        private final int[] layers = new int[MOST_PUTS];
        private final int[] sizes = new int[MOST_PUTS];
        private final int[] numbers = new int[MOST_PUTS];
        private final int[] minutes = new int[MOST_PUTS];
        private int made = 0;

        void keep(int kilometre, int layer, int size, int many, int minute) {
            if (made >= MOST_PUTS) {
                return;
            }
            kilometres[made] = kilometre;
            layers[made] = layer;
            sizes[made] = size;
            numbers[made] = many;
            minutes[made] = minute;
            made++;
        }

        private boolean has(int put) {
            return put >= 0 && put < made && put < MOST_PUTS;
        }

        int kilometreAt(int put) {
            return has(put) ? kilometres[put] : 0;
        }

        int layerAt(int put) {
            return has(put) ? layers[put] : 0;
        }

        int sizeAt(int put) {
            return has(put) ? sizes[put] : 0;
        }

        int minuteAt(int put) {
            return has(put) ? minutes[put] : 0;
        }

        long waterAt(int put) {
            return has(put) ? waterOf(sizes[put], numbers[put]) : 0L;
        }
    }

    /** What held in each minute that went by, for following drops once more. */
    private static final class Past {
        private final int[] meltings = new int[LAST_MINUTE + 1];
        private final int[] steps = new int[LAST_MINUTE + 1];

        private static boolean isMinute(int number) {
            return number >= 0 && number <= LAST_MINUTE;
        }

        void keep(int number, int melting, int step) {
            if (isMinute(number)) {
                meltings[number] = melting;
                steps[number] = step;
            }
        }

        int meltingIn(int number) {
            return isMinute(number) ? meltings[number] : 0;
        }

        int stepIn(int number) {
            return isMinute(number) ? steps[number] : 0;
        }
    }

    /** The gauges, one at most in a kilometre. */
    private static final class Gauges {
        private final boolean[] ups = new boolean[KILOMETRES];
        private final boolean[] clogs = new boolean[KILOMETRES];
        private final long[] contents = new long[KILOMETRES];

        private static boolean isKilometre(int kilometre) {
            return kilometre >= 0 && kilometre < KILOMETRES;
        }

        boolean isUp(int kilometre) {
            return isKilometre(kilometre) && ups[kilometre];
        }

        boolean isClogged(int kilometre) {
            return isKilometre(kilometre) && clogs[kilometre];
        }

        long contentOf(int kilometre) {
            return isKilometre(kilometre) ? contents[kilometre] : 0L;
        }

        /** Puts a gauge up or takes it away: either way nothing of an earlier one remains. */
        void change(int kilometre, boolean isUp) {
            if (isKilometre(kilometre)) {
                ups[kilometre] = isUp;
                clogs[kilometre] = false;
                contents[kilometre] = 0;
            }
        }

        void setClogged(int kilometre, boolean isClogged) {
            if (isKilometre(kilometre)) {
                clogs[kilometre] = isClogged;
            }
        }

        /** Takes all the water of a minute at once: a clogged gauge halves it as a whole. */
        void collect(int kilometre, long landed) {
            if (isUp(kilometre)) {
                contents[kilometre] += isClogged(kilometre) ? landed / 2 : landed;
            }
        }
    }

    /** The scans, each with its raw echoes and the rule of then. */
    private static final class Scans {
        private final long[] echoes = new long[MOST_SCANS * KILOMETRES];
        private final int[] rules = new int[MOST_SCANS];
        private int made = 0;

        /** Begins a scan whose echoes are all 0. */
        void begin(int rule) {
            if (made < MOST_SCANS) {
                rules[made] = rule;
                made++;
            }
        }

        /** Where an echo stands; NONE if there is no such scan or kilometre. */
        private int slotOf(int scan, int kilometre) {
            if (scan < 0 || scan >= made || scan >= MOST_SCANS || kilometre < 0 || kilometre >= KILOMETRES) {
                return NONE;
            }
            return scan * KILOMETRES + kilometre;
        }

        void setLatest(int kilometre, long echo) {
            int slot = slotOf(made - 1, kilometre);
            if (slot != NONE) {
                echoes[slot] = echo;
            }
        }

        long echoAt(int scan, int kilometre) {
            int slot = slotOf(scan, kilometre);
            return slot == NONE ? 0L : echoes[slot];
        }

        int ruleAt(int scan) {
            return scan >= 0 && scan < made && scan < MOST_SCANS ? rules[scan] : 0;
        }

        /** How much the latest scan differs, over all kilometres, from the one ahead of it moved by a step. */
        long differenceBy(int step) {
            long sum = 0;
            for (int kilometre = 0; kilometre < KILOMETRES; kilometre++) {
                long now = echoAt(made - 1, kilometre);
                long ahead = echoAt(made - 2, kilometre - step);
                sum += Math.abs(now - ahead);
            }
            return sum;
        }
    }
}
