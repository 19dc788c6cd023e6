/** Promises 9, 10 and 15 to 17 in ordinary use: scans, rules, rain and motion. */
public final class ScanTest {
    private static final Dues DUES = new Dues("ScanTest");

    public static void main(String[] args) {
        scanIsKept();
        scanBlocked();
        thirtyScans();
        rules();
        eachRoundedDown();
        rawNotSeen();
        motionByOneEcho();
        motionOfAlikeOnes();
        motionBelowZeroFirst();
        motionOfTheLatestTwo();
        motionAtTheEnds();
        motionHasNoWrap();
        DUES.end();
    }

    private static void scanIsKept() {
        Brightband x = new Brightband();
        x.drops(4, 0, 1, 70);
        DUES.due("scan", () -> x.scan(0), 20);
        DUES.due("rain", () -> x.rain(4), 7);
        x.pass(1);
        DUES.due("rain is of the scan, not of now", () -> x.rain(4), 7);
        DUES.due("nowhere else", () -> x.rain(5), 0);
        x.drops(4, 3, 1, 50);
        DUES.due("a higher scan", () -> x.scan(3), 20);
        DUES.due("both together", () -> x.rain(4), 12);
        x.melt(3);
        DUES.due("phases of then", () -> x.rain(4), 12);
        x.hill(0, 9);
        DUES.due("hills of then", () -> x.rain(4), 12);
    }

    private static void scanBlocked() {
        Brightband x = new Brightband();
        x.drops(4, 0, 1, 70);
        x.drops(6, 0, 1, 70);
        x.hill(6, 1);
        DUES.due("up to the hill", () -> x.scan(0), 6);
        DUES.due("ahead of it", () -> x.rain(4), 7);
        DUES.due("0 where it is blocked", () -> x.rain(6), 0);
        x.hill(6, 0);
        x.hill(0, 1);
        DUES.due("all blocked", () -> x.scan(0), 0);
        DUES.due("as before", () -> x.rain(4), 7);
        DUES.due("as before, by 1", () -> x.rainBy(4, 1), 70);
    }

    private static void thirtyScans() {
        Brightband x = new Brightband();
        x.drops(19, 3, 1, 10);
        DUES.illegal("refused scans do not count", () -> x.scan(4));
        for (int i = 1; i <= 30; i++) {
            DUES.due("scan " + i, () -> x.scan(0), 20);
            DUES.due("rain after " + i, () -> x.rain(19), i);
        }
        DUES.tooMany("scan 31", () -> x.scan(0));
        DUES.illegal("elevation ahead of state", () -> x.scan(-1));
        DUES.illegal("elevation ahead of state", () -> x.scan(4));
        DUES.due("rain after a refusal", () -> x.rain(19), 30);
        DUES.due("rainBy after a refusal", () -> x.rainBy(19, 1), 300);
        DUES.due("motion after a refusal", () -> x.motion(), 0);
    }

    private static void rules() {
        Brightband x = new Brightband();
        x.drops(2, 0, 1, 999);
        x.scan(0);
        DUES.due("10 at first", () -> x.rule(1), 10);
        x.scan(0);
        DUES.due("1 then", () -> x.rule(1000), 1);
        x.scan(0);
        DUES.due("1000 then", () -> x.rule(999), 1000);
        DUES.due("999 then", () -> x.rule(999), 999);
        x.scan(0);
        DUES.due("each by its rule", () -> x.rain(2), 99 + 999 + 0 + 1);
        DUES.due("all by 1", () -> x.rainBy(2, 1), 4 * 999);
        DUES.due("all by 1000", () -> x.rainBy(2, 1000), 0);
        DUES.due("all by 999", () -> x.rainBy(2, 999), 4);
        DUES.due("all by 500", () -> x.rainBy(2, 500), 4);
        DUES.due("rainBy sets no rule", () -> x.rule(10), 999);
        DUES.due("a new rule is for new scans", () -> x.rain(2), 1099);
    }

    private static void eachRoundedDown() {
        Brightband x = new Brightband();
        x.drops(2, 0, 1, 19);
        for (int i = 0; i < 3; i++) {
            x.scan(0);
        }
        DUES.due("1 and 1 and 1", () -> x.rain(2), 3);
        DUES.due("6 and 6 and 6", () -> x.rainBy(2, 3), 18);
    }

    private static void rawNotSeen() {
        Brightband x = new Brightband();
        x.drops(0, 0, 1, 1000);
        x.drops(1, 0, 1, 1000);
        x.scan(0);
        DUES.due("not weakened", () -> x.rain(1), 100);
    }

    /** An object with two scans of single echoes, one in a kilometre each. */
    private static Brightband scanned(int ahead, int latest) {
        Brightband x = new Brightband();
        x.drops(ahead, Beams.LAYERS[0][ahead], 1, 50);
        x.scan(0);
        x.pass(10);
        x.drops(latest, Beams.LAYERS[0][latest], 1, 50);
        x.scan(0);
        return x;
    }

    private static void motionByOneEcho() {
        for (int ahead = 0; ahead < 20; ahead++) {
            for (int latest = 0; latest < 20; latest++) {
                int moved = latest - ahead;
                int due = moved;
                if (moved < -3 || moved > 3) {
                    // A move that bears the old echo out of the kilometres saves its half of the sum.
                    due = ahead < 3 ? -ahead - 1 : ahead > 16 ? 20 - ahead : 0;
                }
                Brightband x = scanned(ahead, latest);
                DUES.due("from " + ahead + " to " + latest, () -> x.motion(), due);
            }
        }
    }

    private static void motionOfAlikeOnes() {
        Brightband x = new Brightband();
        DUES.tooMany("no scan", () -> x.motion());
        x.scan(0);
        DUES.tooMany("one scan", () -> x.motion());
        x.scan(3);
        DUES.due("nothing at all", () -> x.motion(), 0);
        Brightband y = new Brightband();
        for (int kilometre = 5; kilometre < 10; kilometre++) {
            y.drops(kilometre, 0, 1, 10);
        }
        y.scan(0);
        y.scan(0);
        DUES.due("nothing moved", () -> y.motion(), 0);
    }

    private static void motionBelowZeroFirst() {
        Brightband x = new Brightband();
        x.drops(5, 0, 1, 40);
        x.scan(0);
        x.pass(1);
        x.drops(4, 0, 1, 40);
        x.drops(6, 0, 1, 40);
        x.scan(0);
        DUES.due("-1 and 1 are alike", () -> x.motion(), -1);
        Brightband y = new Brightband();
        y.drops(5, 0, 1, 40);
        y.scan(0);
        y.pass(1);
        y.drops(3, 0, 1, 40);
        y.drops(6, 0, 1, 40);
        y.scan(0);
        DUES.due("1 is nearer than -2", () -> y.motion(), 1);
        Brightband z = new Brightband();
        z.drops(5, 0, 1, 40);
        z.scan(0);
        z.pass(1);
        z.drops(2, 0, 1, 41);
        z.drops(6, 0, 1, 40);
        z.drops(8, 0, 1, 42);
        z.scan(0);
        DUES.due("the least is alike in 1, 3 and -3", () -> z.motion(), 1);
    }

    private static void motionOfTheLatestTwo() {
        Brightband x = new Brightband();
        x.drops(5, 0, 1, 40);
        x.scan(0);
        x.pass(1);
        x.drops(8, 0, 1, 40);
        x.scan(0);
        DUES.due("up by 3", () -> x.motion(), 3);
        x.pass(1);
        x.drops(6, 0, 1, 40);
        x.scan(0);
        DUES.due("down by 2", () -> x.motion(), -2);
        x.scan(0);
        DUES.due("not at all", () -> x.motion(), 0);
        DUES.due("as before", () -> x.motion(), 0);
    }

    private static void motionAtTheEnds() {
        Brightband x = new Brightband();
        x.drops(0, 0, 1, 40);
        x.scan(0);
        x.pass(1);
        x.scan(0);
        DUES.due("what has gone went down", () -> x.motion(), -1);
        Brightband y = new Brightband();
        y.drops(19, 3, 1, 40);
        y.scan(0);
        y.pass(10);
        y.scan(0);
        DUES.due("what has gone went up", () -> y.motion(), 1);
        Brightband z = new Brightband();
        z.drops(17, 2, 1, 40);
        z.scan(0);
        z.pass(10);
        z.scan(0);
        DUES.due("went up by 3", () -> z.motion(), 3);
    }

    private static void motionHasNoWrap() {
        Brightband x = new Brightband();
        x.scan(0);
        x.drops(0, 0, 1, 40);
        x.drops(19, 3, 1, 40);
        x.scan(0);
        DUES.due("what has come came from nowhere", () -> x.motion(), 0);
    }
}
