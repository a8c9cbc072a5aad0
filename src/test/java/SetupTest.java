/** Promises 1 to 4, and what 12, 13 and 15 tell and refuse, mostly before THE LINK is opened. */
public final class SetupTest {
    private static final int LEAST = Integer.MIN_VALUE, MOST = Integer.MAX_VALUE;
    private static final int[] FIRST = {1, 12, 8, 150, 100, 200, 300};
    private static final int[] BEYOND = {65535, 13, 13, 1001, 1001, 1001, 1001};

    public static void main(String[] args) {
        newObject();
        firstSettings();
        firstSettingsAtWork();
        lastOf512Calls();
        stationBounds();
        kBounds();
        wBounds();
        timerBounds();
        noSuchSetting();
        settingsOnlyWhenClosed();
        theFirstThatFits();
        pointSorts();
        pointGroups();
        pointAddresses();
        pointsAreNumberedFromZero();
        fullPoints();
        commandSorts();
        commandAddresses();
        commandPoints();
        commandsWithoutAnyPoint();
        fullCommands();
        addressesAreAllUnlike();
        pointsAndCommandsInEveryLink();
        toldRefusesByZero();
        orderedRefuses();
        countRefuses();
        Bench.finish();
    }

    private static void newObject() {
        Bench b = new Bench("a new object");
        for (int what = 0; what <= 13; what++) {
            b.count(what, 0);
        }
        b.clockIs(0, 0, 0, 1, 1, 0, 0);
        b.told(0, 0, 0);
        b.ordered(0, 0, -1);
        b.out(0, -1);
        b.take(0, 0);
    }

    private static void firstSettings() {
        Bench b = new Bench("the settings of a new object");
        for (int what = 0; what < 7; what++) {
            b.set(what, FIRST[what], FIRST[what]);
        }
    }

    /** Station 1 in an EVENT, K 12, W 8, and each TIMER a TICK before it is over and then. */
    private static void firstSettingsAtWork() {
        Bench b = Bench.inLink("station 1, K 12", 2);
        for (int i = 1; i <= 13; i++) {
            b.change(0, i % 2, 0, 1);
        }
        b.count(4, 12);
        b.take(11 * 16, 16);
        b.outIs(Bench.data(11, 0, 1, 1, 3, 0, 1, 0, 5, 0, 0, 0));
        b.tick(149, 2);
        b.tick(1, 0);
        b.closedBy(4);
        Bench c = Bench.inLink("W 8", 2);
        for (int i = 1; i <= 7; i++) {
            c.i();
        }
        c.count(2, 0);
        c.i();
        c.outIs(Bench.ackOf(8));
        c.i();
        c.tick(99, 2);
        c.count(6, 1);
        c.tick(1, 2);
        c.count(6, 0);
        c.tick(99, 2);
        c.count(9, 0);
        c.tick(1, 2);
        c.count(9, 1);
        Bench d = new Bench("S 300");
        d.command(0, 7, -1, true, 0);
        d.started();
        d.i(45, 1, 6, 0, 1, 0, 7, 0, 0, 129);
        d.s(1);
        d.tick(199, 2);
        d.s(1);
        d.tick(100, 2);
        d.ordered(0, 1, 1);
        d.tick(1, 2);
        d.ordered(0, 0, 0);
    }

    /** 511 calls of 100 seconds each: 14 hours, 11 minutes and 40 seconds. */
    private static void lastOf512Calls() {
        for (int what = 0; what < 4; what++) {
            Bench b = new Bench("the 512th call");
            for (int i = 0; i < 511; i++) {
                b.tick(1000, 0);
            }
            b.clock(what, new int[] {40000, 11, 14, 1}[what]);
        }
    }

    private static void stationBounds() {
        bounds(0, 0, 65534);
    }

    private static void kBounds() {
        bounds(1, 1, 12);
    }

    private static void wBounds() {
        bounds(2, 1, 12);
    }

    private static void timerBounds() {
        for (int what = 3; what <= 6; what++) {
            bounds(what, 1, 1000);
        }
    }

    private static void bounds(int what, int least, int most) {
        Bench b = new Bench("bounds of setting " + what);
        int[] wrong = {least - 1, most + 1, -1, LEAST, MOST};
        for (int v : wrong) {
            b.set(what, v, -1);
        }
        b.set(what, least, FIRST[what]);
        b.set(what, most, least);
        for (int v : wrong) {
            b.set(what, v, -1);
        }
        b.set(what, least, most);
    }

    private static void noSuchSetting() {
        Bench b = new Bench("no such setting");
        for (int what : new int[] {LEAST, -1, 7, MOST}) {
            b.set(what, 1, -1);
        }
        b.open(1);
        b.set(-1, 1, -1);
        b.set(7, 1, -1);
    }

    private static void settingsOnlyWhenClosed() {
        for (int link = 1; link <= 3; link++) {
            Bench b = Bench.inLink("set", link);
            for (int what = 0; what < 7; what++) {
                b.set(what, 9, -2);
                b.set(what, BEYOND[what], -1);
            }
            b.close(1);
            for (int what = 0; what < 7; what++) {
                b.set(what, 9, FIRST[what]);
            }
        }
    }

    /** BAD ahead of STATE and of FULL, in each call that has both. */
    private static void theFirstThatFits() {
        Bench b = new Bench("BAD ahead of FULL");
        for (int i = 0; i < 24; i++) {
            b.point(4, 1 + i, 0, false, i);
        }
        for (int i = 0; i < 12; i++) {
            b.command(0, 101 + i, -1, false, i);
        }
        for (int i = 1; i <= 40; i++) {
            b.change(0, i, 0, 1);
        }
        b.point(4, 24, 0, false, -1);
        b.point(4, 25, 0, false, -3);
        b.command(0, 112, -1, false, -1);
        b.command(0, 113, -1, false, -3);
        b.change(0, 32768, 0, -1);
        b.change(0, 41, 32, -1);
        b.change(24, 41, 0, -1);
        b.change(0, 41, 0, -3);
        b.come(9, 0, -1);
        b.come(8, 0, -2);
        b.open(1);
        b.set(1, 13, -1);
        b.set(1, 12, -2);
    }

    private static void pointSorts() {
        Bench b = new Bench("SORTS of POINTS");
        for (int sort : new int[] {LEAST, -1, 7, MOST}) {
            b.point(sort, 1, 0, false, -1);
        }
        b.count(12, 0);
        for (int sort = 0; sort < 7; sort++) {
            b.point(sort, 1 + sort, 0, sort % 2 == 0, sort);
            b.told(sort, 0, sort);
            b.told(sort, 3, sort % 2 == 0 ? 1 : 0);
        }
    }

    private static void pointGroups() {
        Bench b = new Bench("GROUPS");
        for (int group : new int[] {LEAST, -1, 17, MOST}) {
            b.point(0, 1, group, false, -1);
        }
        b.count(12, 0);
        for (int group = 0; group <= 16; group++) {
            b.point(0, 1 + group, group, false, group);
            b.told(group, 2, group);
        }
    }

    private static void pointAddresses() {
        Bench b = new Bench("ADDRESSES of POINTS");
        for (int address : new int[] {LEAST, -1, 0, 16777216, MOST}) {
            b.point(0, address, 0, false, -1);
        }
        b.count(12, 0);
        b.point(6, 16777215, 0, true, 0);
        b.point(0, 1, 0, false, 1);
        b.told(0, 1, 16777215);
        b.told(1, 1, 1);
    }

    private static void pointsAreNumberedFromZero() {
        Bench b = new Bench("POINTS by their numbers");
        b.point(6, 300, 16, true, 0);
        b.point(7, 299, 0, false, -1);
        b.point(0, 200, 0, false, 1);
        int[][] want = {{6, 300, 16, 1, 0, 0, 0}, {0, 200, 0, 0, 0, 0, 0}};
        for (int point = 0; point < want.length; point++) {
            for (int what = 0; what < 7; what++) {
                b.told(point, what, want[point][what]);
            }
        }
    }

    private static void fullPoints() {
        Bench b = new Bench("24 POINTS");
        for (int i = 0; i < 24; i++) {
            b.point(i % 7, 100 - i, i % 17, i % 2 == 0, i);
        }
        b.point(0, 101, 0, false, -3);
        b.point(0, 100, 0, false, -1);
        b.point(7, 101, 0, false, -1);
        b.point(0, 101, 17, false, -1);
        b.point(0, 0, 0, false, -1);
        b.count(12, 24);
        b.told(23, 1, 77);
        b.told(24, 1, 0);
        b.command(0, 101, -1, false, 0);
    }

    private static void commandSorts() {
        Bench b = new Bench("SORTS of COMMANDS");
        for (int sort : new int[] {LEAST, -1, 3, MOST}) {
            b.command(sort, 90, -1, false, -1);
        }
        b.count(13, 0);
        for (int sort = 0; sort < 3; sort++) {
            b.command(sort, 90 + sort, -1, false, sort);
        }
    }

    private static void commandAddresses() {
        Bench b = new Bench("ADDRESSES of COMMANDS");
        for (int address : new int[] {LEAST, -1, 0, 16777216, MOST}) {
            b.command(0, address, -1, false, -1);
        }
        b.count(13, 0);
        b.command(0, 16777215, -1, false, 0);
        b.command(0, 1, -1, false, 1);
    }

    private static void commandPoints() {
        Bench b = new Bench("POINTS of COMMANDS");
        for (int sort = 0; sort < 7; sort++) {
            b.point(sort, 10 + sort, 0, false, sort);
        }
        int[] sets = {0, 1, 4};
        int made = 0;
        for (int sort = 0; sort < 3; sort++) {
            for (int point : new int[] {LEAST, -2, 7, 24, MOST}) {
                b.command(sort, 30 + made, point, true, -1);
            }
            for (int point = 0; point < 7; point++) {
                b.command(sort, 30 + made, point, true, point == sets[sort] ? made++ : -1);
            }
            b.command(sort, 30 + made, ControlledStation.NONE, false, made++);
        }
        b.count(13, made);
    }

    private static void commandsWithoutAnyPoint() {
        Bench b = new Bench("COMMANDS when there is no POINT");
        b.command(0, 1, 0, false, -1);
        b.command(0, 1, -1, false, 0);
    }

    private static void fullCommands() {
        Bench b = new Bench("12 COMMANDS");
        for (int i = 0; i < 12; i++) {
            b.command(i % 3, 50 + i, -1, false, i);
        }
        b.command(0, 49, -1, false, -3);
        b.command(0, 50, -1, false, -1);
        b.command(3, 49, -1, false, -1);
        b.command(0, 49, 0, false, -1);
        b.count(13, 12);
        b.ordered(11, 2, 0);
        b.ordered(12, 2, -1);
        b.point(0, 49, 0, false, 0);
    }

    private static void addressesAreAllUnlike() {
        Bench b = new Bench("ADDRESSES of POINTS and COMMANDS");
        b.point(0, 10, 0, false, 0);
        b.point(5, 10, 3, true, -1);
        b.command(0, 10, 0, false, -1);
        b.command(0, 11, 0, false, 0);
        b.command(1, 11, -1, false, -1);
        b.point(0, 11, 0, false, -1);
        b.count(12, 1);
        b.count(13, 1);
    }

    private static void pointsAndCommandsInEveryLink() {
        for (int link = 0; link <= 3; link++) {
            Bench b = Bench.inLink("point and command", link);
            b.point(2, 6, 3, false, 1);
            b.command(0, 7, 0, false, 0);
        }
    }

    /** Of a POINT whose numbers are all other than 0 and -1, so that a wrong answer shows. */
    private static void toldRefusesByZero() {
        Bench b = new Bench("told refuses");
        int[] edges = {LEAST, -2, -1, 1, 23, 24, MOST};
        for (int point : edges) {
            b.told(point, 4, 0);
        }
        b.point(2, 10, 3, true, 0);
        b.change(0, 7, 17, 1);
        for (int point : edges) {
            for (int what = -1; what <= 7; what++) {
                b.told(point, what, 0);
            }
        }
        for (int what : new int[] {LEAST, -2, -1, 7, 8, MOST}) {
            b.told(0, what, 0);
        }
        int[] want = {2, 10, 3, 1, 7, 17, 0};
        for (int what = 0; what < want.length; what++) {
            b.told(0, what, want[what]);
        }
        b.change(0, -1, 0, 1);
        b.told(0, 4, -1);
        b.count(12, 1);
    }

    private static void orderedRefuses() {
        Bench b = new Bench("ordered refuses");
        b.ordered(0, 0, -1);
        b.command(0, 11, -1, true, 0);
        for (int what = 0; what < 3; what++) {
            b.ordered(0, what, 0);
            for (int command : new int[] {LEAST, -1, 1, 11, 12, MOST}) {
                b.ordered(command, what, -1);
            }
        }
        for (int what : new int[] {LEAST, -1, 3, MOST}) {
            b.ordered(0, what, -1);
        }
    }

    private static void countRefuses() {
        Bench b = new Bench("count refuses");
        for (int what : new int[] {LEAST, -1, 14, MOST}) {
            b.count(what, -1);
        }
    }
}
