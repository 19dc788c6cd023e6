import java.util.ArrayList;
import java.util.List;

/** The document once more, as slow and plain as can be: each drop by itself. Its methods are those of the class. */
public final class Model {
    private static final class Drop {
        int kilometre, layer, size;
    }

    private static final class Gauge {
        boolean isClogged;
        long has, came;
    }

    private static final class Scan {
        long[] echoes = new long[20];
        int rule;
    }

    private final List<Drop> inAir = new ArrayList<>();
    private final List<Drop> onGround = new ArrayList<>();
    private final List<Drop> gone = new ArrayList<>();
    private final List<Scan> scans = new ArrayList<>();
    private final Gauge[] gauges = new Gauge[20];
    private final int[] hills = new int[20];
    private int melting = 5, period, minute, rule = 10, dropsMade;
    private boolean isUp;

    private static void kilometreAndLayer(int kilometre, int layer) {
        if (kilometre < 0 || kilometre > 19 || layer < 0 || layer > 9) {
            throw new IndexOutOfBoundsException();
        }
    }

    private static void range(boolean isGood) {
        if (!isGood) {
            throw new IllegalArgumentException();
        }
    }

    private static void state(boolean isGood) {
        if (!isGood) {
            throw new IllegalStateException();
        }
    }

    private static long volume(List<Drop> drops) {
        return drops.stream().mapToLong(d -> d.size * d.size * d.size).sum();
    }

    public int drops(int kilometre, int layer, int size, int many) {
        kilometreAndLayer(kilometre, layer);
        range(size >= 1 && size <= 3 && many >= 1 && many <= 1000);
        state(dropsMade < 100);
        dropsMade++;
        for (int i = 0; i < many; i++) {
            Drop drop = new Drop();
            drop.kilometre = kilometre;
            drop.layer = layer;
            drop.size = size;
            inAir.add(drop);
        }
        return count(kilometre, layer, size);
    }

    public int melt(int layer) {
        kilometreAndLayer(0, layer);
        int before = melting;
        melting = layer;
        return before;
    }

    public int hill(int kilometre, int height) {
        kilometreAndLayer(kilometre, 0);
        range(height >= 0 && height <= 9);
        int before = hills[kilometre];
        hills[kilometre] = height;
        return before;
    }

    public int drift(int newPeriod, boolean newIsUp) {
        range(newPeriod >= 0 && newPeriod <= 60);
        int before = period;
        period = newPeriod;
        isUp = newIsUp;
        return before;
    }

    public boolean gauge(int kilometre, boolean is) {
        kilometreAndLayer(kilometre, 0);
        boolean was = gauges[kilometre] != null;
        if (!is) {
            gauges[kilometre] = null;
        } else if (!was) {
            gauges[kilometre] = new Gauge();
        }
        return was;
    }

    private Gauge gaugeOf(int kilometre) {
        kilometreAndLayer(kilometre, 0);
        if (gauges[kilometre] == null) {
            throw new IndexOutOfBoundsException();
        }
        return gauges[kilometre];
    }

    public boolean clog(int kilometre, boolean is) {
        Gauge gauge = gaugeOf(kilometre);
        boolean was = gauge.isClogged;
        gauge.isClogged = is;
        return was;
    }

    public int pass(int minutes) {
        range(minutes >= 1 && minutes <= 60);
        state(minute + minutes <= 600);
        for (int i = 0; i < minutes; i++) {
            minute++;
            fall();
            if (period != 0 && minute % period == 0) {
                go();
            }
        }
        return minute;
    }

    private void fall() {
        List<Drop> were = new ArrayList<>(inAir);
        inAir.clear();
        for (Drop drop : were) {
            drop.layer -= drop.layer > melting ? 1 : drop.size;
            (drop.layer < 0 ? onGround : inAir).add(drop);
            if (drop.layer < 0 && gauges[drop.kilometre] != null) {
                gauges[drop.kilometre].came += drop.size * drop.size * drop.size;
            }
        }
        for (Gauge gauge : gauges) {
            if (gauge != null) {
                gauge.has += gauge.isClogged ? Math.floorDiv(gauge.came, 2L) : gauge.came;
                gauge.came = 0;
            }
        }
    }

    private void go() {
        List<Drop> were = new ArrayList<>(inAir);
        inAir.clear();
        for (Drop drop : were) {
            drop.kilometre += isUp ? 1 : -1;
            (drop.kilometre < 0 || drop.kilometre > 19 ? gone : inAir).add(drop);
        }
    }

    private static int layerOf(int kilometre, int elevation) {
        return Math.floorDiv(elevation * kilometre, 4) + Math.floorDiv(kilometre * kilometre, 100);
    }

    public int scan(int elevation) {
        range(elevation >= 0 && elevation <= 3);
        state(scans.size() < 30);
        Scan scan = new Scan();
        scan.rule = rule;
        int free = 0;
        for (int kilometre = 0; kilometre < 20; kilometre++) {
            long echo = echo(kilometre, elevation);
            scan.echoes[kilometre] = Math.max(0, echo);
            free += echo >= 0 ? 1 : 0;
        }
        scans.add(scan);
        return free;
    }

    public int rule(int newRule) {
        range(newRule >= 1 && newRule <= 1000);
        int before = rule;
        rule = newRule;
        return before;
    }

    public int count(int kilometre, int layer, int size) {
        kilometreAndLayer(kilometre, layer);
        range(size >= 1 && size <= 3);
        return (int) inAir.stream().filter(d -> d.kilometre == kilometre && d.layer == layer && d.size == size).count();
    }

    public int phase(int layer) {
        kilometreAndLayer(0, layer);
        return layer > melting ? 0 : layer == melting ? 1 : 2;
    }

    public long echo(int kilometre, int elevation) {
        kilometreAndLayer(kilometre, 0);
        range(elevation >= 0 && elevation <= 3);
        for (int i = 0; i <= kilometre; i++) {
            if (hills[i] > layerOf(i, elevation)) {
                return -1;
            }
        }
        int layer = layerOf(kilometre, elevation);
        long sum = inAir.stream().filter(d -> d.kilometre == kilometre && d.layer == layer)
                .mapToLong(d -> (long) Math.pow(d.size, 6)).sum();
        return layer > melting ? Math.floorDiv(sum, 4L) : layer == melting ? 3 * sum : sum;
    }

    public long seen(int kilometre, int elevation) {
        long echo = echo(kilometre, elevation);
        if (echo < 0) {
            return -1;
        }
        double left = echo;
        for (int i = 0; i < kilometre; i++) {
            long ahead = echo(i, elevation);
            left *= ahead >= 1000 ? 0.9 : ahead >= 100 ? 0.98 : 1.0;
        }
        return Double.doubleToRawLongBits(left);
    }

    public long rain(int kilometre) {
        kilometreAndLayer(kilometre, 0);
        return scans.stream().mapToLong(s -> Math.floorDiv(s.echoes[kilometre], s.rule)).sum();
    }

    public long rainBy(int kilometre, int one) {
        kilometreAndLayer(kilometre, 0);
        range(one >= 1 && one <= 1000);
        return scans.stream().mapToLong(s -> Math.floorDiv(s.echoes[kilometre], one)).sum();
    }

    public int motion() {
        state(scans.size() >= 2);
        long[] now = scans.get(scans.size() - 1).echoes;
        long[] ahead = scans.get(scans.size() - 2).echoes;
        int best = 4;
        long least = Long.MAX_VALUE;
        for (int by = -3; by <= 3; by++) {
            long sum = 0;
            for (int i = 0; i < 20; i++) {
                sum += Math.abs(now[i] - (i - by < 0 || i - by > 19 ? 0 : ahead[i - by]));
            }
            if (sum < least || sum == least && Math.abs(by) < Math.abs(best)) {
                least = sum;
                best = by;
            }
        }
        return best;
    }

    public long collected(int kilometre) {
        return gaugeOf(kilometre).has;
    }

    public long ground(int kilometre) {
        kilometreAndLayer(kilometre, 0);
        return volume(onGround.stream().filter(d -> d.kilometre == kilometre).toList());
    }

    public long groundAnew(int kilometre) {
        return ground(kilometre);
    }

    public long water(int what) {
        range(what >= 0 && what <= 3);
        return what == 0 ? water(1) + water(2) + water(3) : volume(what == 1 ? inAir : what == 2 ? onGround : gone);
    }
}
