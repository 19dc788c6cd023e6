/** Promises 2 to 8, 11, 12 and 18 to 21 in ordinary use: the air, the ground, gauges and the balance of water. */
public final class AirTest {
    private static final Dues DUES = new Dues("AirTest");

    public static void main(String[] args) {
        dropsAndCount();
        hundredDrops();
        meltAndPhase();
        hill();
        fallByPhase();
        phaseIsThatAheadOfTheFall();
        landing();
        driftUp();
        driftDown();
        driftByNumberOfTheMinute();
        driftIsChanged();
        gauge();
        gaugeIsPutUpAgain();
        clog();
        clogHalvesTheWholeMinute();
        minutes();
        groundAnew();
        anewByThePhaseOfThen();
        anewAtTheEnds();
        anewInTheLastMinute();
        water();
        DUES.end();
    }

    private static void dropsAndCount() {
        Brightband x = new Brightband();
        DUES.due("drops in the first place", () -> x.drops(0, 0, 1, 1), 1);
        DUES.due("drops in the last place", () -> x.drops(19, 9, 3, 1000), 1000);
        DUES.due("drops of that size come together", () -> x.drops(19, 9, 3, 1000), 2000);
        DUES.due("drops of another size do not", () -> x.drops(19, 9, 2, 7), 7);
        DUES.due("count first", () -> x.count(0, 0, 1), 1);
        DUES.due("count last", () -> x.count(19, 9, 3), 2000);
        DUES.due("count of another size", () -> x.count(19, 9, 2), 7);
        DUES.due("count of none", () -> x.count(19, 9, 1), 0);
        DUES.due("count of the next layer", () -> x.count(19, 8, 3), 0);
        DUES.due("count of the next kilometre", () -> x.count(18, 9, 3), 0);
    }

    private static void hundredDrops() {
        Brightband x = new Brightband();
        DUES.outside("refused drops do not count", () -> x.drops(-1, 0, 1, 1));
        DUES.illegal("refused drops do not count", () -> x.drops(0, 0, 1, 0));
        for (int i = 1; i <= 100; i++) {
            DUES.due("drops " + i, () -> x.drops(3, 4, 1, 1), i);
        }
        DUES.tooMany("drops 101", () -> x.drops(3, 4, 1, 1));
        DUES.outside("kilometre ahead of state", () -> x.drops(20, 4, 1, 1));
        DUES.illegal("many ahead of state", () -> x.drops(3, 4, 1, 1001));
        DUES.due("count after a refusal", () -> x.count(3, 4, 1), 100);
        DUES.due("water after a refusal", () -> x.water(0), 100);
        DUES.due("minutes after that", () -> x.pass(5), 5);
        DUES.tooMany("drops 101, later on", () -> x.drops(3, 4, 1, 1));
        DUES.due("all drops followed", () -> x.groundAnew(3), 100);
    }

    private static void meltAndPhase() {
        Brightband x = new Brightband();
        int[] at5 = {2, 2, 2, 2, 2, 1, 0, 0, 0, 0};
        for (int layer = 0; layer < 10; layer++) {
            int l = layer;
            DUES.due("phase at first in " + l, () -> x.phase(l), at5[layer]);
        }
        DUES.due("melt", () -> x.melt(0), 5);
        DUES.due("phase of the lowest", () -> x.phase(0), Brightband.MELTING);
        DUES.due("phase above the lowest", () -> x.phase(1), Brightband.SNOW);
        DUES.due("melt again", () -> x.melt(9), 0);
        DUES.due("phase of the highest", () -> x.phase(9), Brightband.MELTING);
        DUES.due("phase below the highest", () -> x.phase(8), Brightband.WATER);
        DUES.due("melt the same", () -> x.melt(9), 9);
    }

    private static void hill() {
        Brightband x = new Brightband();
        DUES.due("hill first", () -> x.hill(0, 9), 0);
        DUES.due("hill last", () -> x.hill(19, 4), 0);
        DUES.due("hill before", () -> x.hill(0, 0), 9);
        DUES.due("hill of another", () -> x.hill(19, 9), 4);
        DUES.due("hill gone", () -> x.hill(0, 1), 0);
    }

    private static void fallByPhase() {
        for (int size = 1; size <= 3; size++) {
            int s = size;
            Brightband x = new Brightband();
            x.drops(7, 6, s, 10);
            x.drops(8, 5, s, 20);
            x.drops(9, 4, s, 30);
            x.pass(1);
            DUES.due("snow falls 1", () -> x.count(7, 5, s), 10);
            DUES.due("melting falls its size", () -> x.count(8, 5 - s, s), 20);
            DUES.due("water falls its size", () -> x.count(9, 4 - s, s), 30);
            x.pass(1);
            DUES.due("what was snow melts", () -> x.count(7, 5 - s, s), 10);
            DUES.due("none stays behind", () -> x.count(7, 6, s) + x.count(7, 5, s), 0);
            DUES.due("all are somewhere", () -> x.water(1) + x.water(2), 60L * s * s * s);
        }
    }

    private static void phaseIsThatAheadOfTheFall() {
        Brightband x = new Brightband();
        x.drops(2, 9, 3, 1);
        x.melt(0);
        x.pass(8);
        DUES.due("snow down to the layer above", () -> x.count(2, 1, 3), 1);
        x.pass(1);
        DUES.due("snow falls into the melting layer", () -> x.count(2, 0, 3), 1);
        DUES.due("not yet on the ground", () -> x.ground(2), 0);
        x.pass(1);
        DUES.due("then on the ground", () -> x.ground(2), 27);
        x.drops(2, 9, 3, 1);
        x.melt(9);
        x.pass(1);
        DUES.due("melting in the highest", () -> x.count(2, 6, 3), 1);
        x.melt(5);
        x.pass(1);
        DUES.due("snow once more", () -> x.count(2, 5, 3), 1);
    }

    private static void landing() {
        Brightband x = new Brightband();
        for (int layer = 0; layer < 4; layer++) {
            x.drops(5, layer, 1, 1);
            x.drops(6, layer, 2, 1);
            x.drops(7, layer, 3, 1);
        }
        x.pass(1);
        DUES.due("size 1 from 1 layer", () -> x.ground(5), 1);
        DUES.due("size 2 from 2 layers", () -> x.ground(6), 16);
        DUES.due("size 3 from 3 layers", () -> x.ground(7), 81);
        DUES.due("size 3 of the fourth layer", () -> x.count(7, 0, 3), 1);
        x.pass(3);
        DUES.due("size 1 all", () -> x.ground(5), 4);
        DUES.due("size 2 all", () -> x.ground(6), 32);
        DUES.due("size 3 all", () -> x.ground(7), 108);
        DUES.due("nowhere else", () -> x.water(2), 144);
    }

    private static void driftUp() {
        Brightband x = new Brightband();
        x.drops(18, 9, 1, 4);
        x.drops(19, 9, 2, 5);
        x.drops(18, 0, 1, 6);
        x.drops(3, 8, 3, 7);
        x.drift(1, true);
        x.pass(1);
        DUES.due("one up", () -> x.count(19, 8, 1), 4);
        DUES.due("the largest too", () -> x.count(4, 7, 3), 7);
        DUES.due("not twice", () -> x.water(3), 40);
        DUES.due("what lands does not drift", () -> x.ground(18), 6);
        DUES.due("none behind", () -> x.count(18, 8, 1), 0);
        x.pass(1);
        DUES.due("all left", () -> x.water(3), 44);
        DUES.due("but the largest", () -> x.water(1), 189);
    }

    private static void driftDown() {
        Brightband x = new Brightband();
        x.drops(1, 9, 1, 4);
        x.drops(0, 9, 2, 5);
        x.drops(1, 0, 1, 6);
        x.drift(1, false);
        x.pass(1);
        DUES.due("one down", () -> x.count(0, 8, 1), 4);
        DUES.due("not twice", () -> x.water(3), 40);
        DUES.due("what lands does not drift", () -> x.ground(1), 6);
        x.pass(1);
        DUES.due("all left", () -> x.water(3), 44);
    }

    private static void driftByNumberOfTheMinute() {
        Brightband x = new Brightband();
        x.pass(2);
        x.drops(10, 9, 1, 1);
        x.drift(3, true);
        x.pass(1);
        DUES.due("the minute 3", () -> x.count(11, 8, 1), 1);
        x.pass(2);
        DUES.due("the minutes 4 and 5", () -> x.count(11, 6, 1), 1);
        x.pass(1);
        DUES.due("the minute 6", () -> x.count(12, 5, 1), 1);
        Brightband y = new Brightband();
        y.drift(60, true);
        y.pass(59);
        y.drops(0, 9, 1, 1);
        y.pass(1);
        DUES.due("the minute 60", () -> y.count(1, 8, 1), 1);
    }

    private static void driftIsChanged() {
        Brightband x = new Brightband();
        DUES.due("no drift before", () -> x.drift(60, false), 0);
        DUES.due("60 before", () -> x.drift(1, true), 60);
        x.drops(10, 9, 1, 1);
        x.pass(1);
        DUES.due("1 before", () -> x.drift(1, false), 1);
        x.pass(1);
        DUES.due("up and down", () -> x.count(10, 7, 1), 1);
        DUES.due("1 before again", () -> x.drift(0, true), 1);
        x.pass(1);
        DUES.due("no drift", () -> x.count(10, 6, 1), 1);
        DUES.due("0 before", () -> x.drift(2, true), 0);
        x.pass(1);
        DUES.due("the minute 4", () -> x.count(11, 5, 1), 1);
    }

    private static void gauge() {
        Brightband x = new Brightband();
        x.drops(4, 0, 2, 3);
        x.pass(1);
        DUES.outside("no gauge yet", () -> x.collected(4));
        DUES.due("a gauge is put up", () -> x.gauge(4, true), false);
        DUES.due("a new one has nothing", () -> x.collected(4), 0);
        x.drops(4, 0, 3, 2);
        x.drops(5, 0, 3, 2);
        x.pass(1);
        DUES.due("what came since", () -> x.collected(4), 54);
        DUES.due("on the ground all the same", () -> x.ground(4), 78);
        DUES.outside("no gauge there", () -> x.collected(5));
        DUES.due("so already", () -> x.gauge(4, true), true);
        DUES.due("nothing changes", () -> x.collected(4), 54);
        DUES.due("taken away", () -> x.gauge(4, false), true);
        DUES.outside("gone", () -> x.collected(4));
        DUES.due("gone already", () -> x.gauge(4, false), false);
        DUES.due("the ground stays", () -> x.ground(4), 78);
        DUES.due("a gauge of the last kilometre", () -> x.gauge(19, true), false);
        DUES.due("is there", () -> x.collected(19), 0);
    }

    private static void gaugeIsPutUpAgain() {
        Brightband x = new Brightband();
        x.gauge(0, true);
        x.clog(0, true);
        x.drops(0, 0, 1, 100);
        x.pass(1);
        DUES.due("half", () -> x.collected(0), 50);
        x.gauge(0, true);
        DUES.due("clogged still", () -> x.clog(0, true), true);
        x.gauge(0, false);
        x.drops(0, 0, 1, 100);
        x.pass(1);
        x.gauge(0, true);
        DUES.due("nothing of the earlier one", () -> x.collected(0), 0);
        DUES.due("not clogged", () -> x.clog(0, false), false);
    }

    private static void clog() {
        Brightband x = new Brightband();
        DUES.outside("no gauge to clog", () -> x.clog(9, true));
        x.gauge(9, true);
        DUES.due("was not", () -> x.clog(9, true), false);
        DUES.due("was", () -> x.clog(9, true), true);
        DUES.due("was too", () -> x.clog(9, false), true);
        DUES.due("was not then", () -> x.clog(9, false), false);
        DUES.outside("no gauge beside", () -> x.clog(8, true));
        x.drops(9, 0, 1, 9);
        x.pass(1);
        DUES.due("whole", () -> x.collected(9), 9);
        x.clog(9, true);
        x.drops(9, 0, 1, 9);
        x.pass(1);
        DUES.due("and half, rounded down", () -> x.collected(9), 13);
        x.clog(9, false);
        x.drops(9, 0, 1, 9);
        x.pass(1);
        DUES.due("and whole", () -> x.collected(9), 22);
        x.gauge(9, false);
        DUES.outside("the gauge is gone", () -> x.clog(9, true));
    }

    private static void clogHalvesTheWholeMinute() {
        Brightband x = new Brightband();
        x.gauge(9, true);
        x.clog(9, true);
        x.drops(9, 0, 1, 1);
        x.drops(9, 1, 3, 1);
        x.drops(9, 2, 3, 1);
        x.drops(9, 0, 2, 1);
        x.pass(1);
        DUES.due("1, 27, 27 and 8 together", () -> x.collected(9), 31);
        x.drops(9, 0, 1, 1);
        x.drops(9, 1, 1, 1);
        x.drops(9, 2, 1, 1);
        x.pass(3);
        DUES.due("each minute by itself", () -> x.collected(9), 31);
        DUES.due("all on the ground", () -> x.ground(9), 66);
    }

    private static void minutes() {
        Brightband x = new Brightband();
        for (int i = 1; i <= 9; i++) {
            DUES.due("an hour", () -> x.pass(60), 60 * i);
        }
        DUES.due("up to 590", () -> x.pass(50), 590);
        DUES.tooMany("601", () -> x.pass(11));
        DUES.illegal("minutes ahead of state", () -> x.pass(61));
        x.drops(1, 9, 1, 1);
        DUES.due("up to 600", () -> x.pass(10), 600);
        DUES.tooMany("601 again", () -> x.pass(1));
        DUES.tooMany("660", () -> x.pass(60));
        DUES.illegal("0 minutes", () -> x.pass(0));
        DUES.due("drops after the last minute", () -> x.drops(0, 0, 1, 1), 1);
        DUES.due("stay", () -> x.groundAnew(0), 0);
        DUES.due("snow 4 times, then 6 times water", () -> x.groundAnew(1), 1);
    }

    private static void groundAnew() {
        Brightband x = new Brightband();
        x.drops(3, 9, 3, 2);
        x.drift(2, true);
        x.pass(3);
        x.melt(7);
        x.drops(3, 8, 2, 5);
        x.drift(1, false);
        x.pass(1);
        x.melt(2);
        x.drops(4, 6, 1, 7);
        x.drift(0, false);
        x.pass(40);
        x.melt(9);
        x.drift(3, true);
        long[] due = new long[20];
        // 9, 8, 7, 6 by snow with a kilometre up in minute 2; in minute 4 water by 3 and a kilometre down; then snow to 2, melting.
        due[3] += 54;
        // 8 is snow and goes down to 7 and a kilometre down; then snow to 2, melting.
        due[2] += 40;
        due[4] += 7;
        for (int kilometre = 0; kilometre < 20; kilometre++) {
            int k = kilometre;
            DUES.due("ground " + k, () -> x.ground(k), due[k]);
            DUES.due("groundAnew " + k, () -> x.groundAnew(k), due[k]);
        }
        DUES.due("what is in the air is not", () -> x.drops(2, 0, 1, 1), 1);
        DUES.due("on the ground", () -> x.groundAnew(2), 40);
        x.drift(1, true);
        DUES.due("now it is", () -> x.pass(1), 45);
        DUES.due("where it was put", () -> x.groundAnew(2), 41);
        x.drops(19, 1, 1, 1);
        x.pass(1);
        DUES.due("what has left", () -> x.water(3), 1);
        x.pass(5);
        DUES.due("is nowhere", () -> x.groundAnew(19), 0);
        x.drift(1, false);
        x.drops(0, 1, 1, 1);
        x.pass(5);
        DUES.due("nor on the other side", () -> x.groundAnew(0), 0);
    }

    private static void anewByThePhaseOfThen() {
        Brightband x = new Brightband();
        x.melt(9);
        x.drift(4, true);
        x.drops(5, 8, 3, 1);
        x.pass(3);
        DUES.due("water is down ahead of the drift", () -> x.groundAnew(5), 27);
        x.melt(0);
        x.drops(5, 8, 3, 1);
        x.pass(8);
        x.melt(9);
        DUES.due("snow is in the air yet", () -> x.groundAnew(7), 0);
        x.pass(1);
        DUES.due("and comes down two drifts on, ahead of the third", () -> x.groundAnew(7), 27);
        DUES.due("as it did", () -> x.ground(7), 27);
        DUES.due("as before", () -> x.groundAnew(5), 27);
    }

    private static void anewAtTheEnds() {
        Brightband x = new Brightband();
        x.drift(1, false);
        x.drops(1, 1, 1, 5);
        x.drops(0, 9, 1, 7);
        x.pass(1);
        x.drift(1, true);
        x.drops(18, 1, 1, 11);
        x.drops(19, 9, 1, 13);
        x.pass(1);
        DUES.due("down to the first", () -> x.groundAnew(0), 5);
        x.drift(1, false);
        x.pass(1);
        DUES.due("up to the last", () -> x.groundAnew(19), 11);
        x.drift(0, true);
        x.pass(10);
        for (int kilometre = 0; kilometre < 20; kilometre++) {
            int k = kilometre;
            DUES.due("what has left stays away from " + k, () -> x.groundAnew(k), k == 0 ? 5 : k == 19 ? 11 : 0);
        }
        DUES.due("both have left", () -> x.water(3), 20);
    }

    private static void anewInTheLastMinute() {
        Brightband x = new Brightband();
        for (int i = 0; i < 9; i++) {
            x.pass(60);
        }
        x.pass(59);
        x.melt(9);
        x.drops(3, 2, 3, 1);
        x.drops(4, 3, 3, 1);
        x.pass(1);
        DUES.due("down in the minute 600", () -> x.groundAnew(3), 27);
        DUES.due("not down any more", () -> x.groundAnew(4), 0);
    }

    private static void water() {
        Brightband x = new Brightband();
        x.drops(0, 0, 1, 3);
        x.drops(19, 9, 2, 5);
        x.drops(7, 7, 3, 7);
        DUES.due("put", () -> x.water(0), 232);
        DUES.due("in the air", () -> x.water(1), 232);
        DUES.due("on the ground", () -> x.water(2), 0);
        DUES.due("left", () -> x.water(3), 0);
        x.drift(1, true);
        x.pass(1);
        DUES.due("put, a minute later", () -> x.water(0), 232);
        DUES.due("in the air, a minute later", () -> x.water(1), 189);
        DUES.due("on the ground, a minute later", () -> x.water(2), 3);
        DUES.due("left, a minute later", () -> x.water(3), 40);
    }
}
