/** Promises 1 to 4, 12, 13 and 15 before THE LINK is ever opened. */
public final class SetupTest {
    public static void main(String[] args) {
        newObject();
        settings();
        settingsOnlyWhenClosed();
        points();
        fullPoints();
        commands();
        fullCommands();
        addressesAreAllUnlike();
        toldRefusesByZero();
        orderedAndClockRefuse();
        Bench.finish();
    }

    private static void newObject() {
        Bench b = new Bench("a new object");
        for (int what = 0; what <= 13; what++) {
            b.count(what, 0);
        }
        b.count(14, -1);
        b.count(-1, -1);
        b.clockIs(0, 0, 0, 1, 1, 0, 0);
        b.told(0, 0, 0);
        b.ordered(0, 0, -1);
        b.out(0, -1);
        b.take(0, 0);
    }

    private static void settings() {
        Bench b = new Bench("set");
        int[] first = {1, 12, 8, 150, 100, 200, 300};
        int[] least = {0, 1, 1, 1, 1, 1, 1};
        int[] most = {65534, 12, 12, 1000, 1000, 1000, 1000};
        for (int what = 0; what < 7; what++) {
            b.set(what, least[what] - 1, -1);
            b.set(what, most[what] + 1, -1);
            b.set(what, least[what], first[what]);
            b.set(what, most[what], least[what]);
            b.set(what, most[what], most[what]);
        }
        b.set(-1, 1, -1);
        b.set(7, 1, -1);
        b.set(Integer.MIN_VALUE, 1, -1);
        b.set(Integer.MAX_VALUE, 1, -1);
    }

    private static void settingsOnlyWhenClosed() {
        Bench b = new Bench("set when not CLOSED");
        b.open(1);
        b.set(1, 5, -2);
        b.set(1, 13, -1);
        b.set(7, 5, -1);
        b.close(1);
        b.set(1, 5, 12);
    }

    private static void points() {
        Bench b = new Bench("point");
        b.point(-1, 1, 0, false, -1);
        b.point(7, 1, 0, false, -1);
        b.point(0, 0, 0, false, -1);
        b.point(0, -5, 0, false, -1);
        b.point(0, 16777216, 0, false, -1);
        b.point(0, 1, -1, false, -1);
        b.point(0, 1, 17, false, -1);
        b.count(12, 0);
        b.point(6, 16777215, 16, true, 0);
        b.point(0, 1, 0, false, 1);
        b.point(5, 1, 0, false, -1);
        b.count(12, 2);
        int[][] want = {{6, 16777215, 16, 1, 0, 0, 0}, {0, 1, 0, 0, 0, 0, 0}};
        for (int i = 0; i < want.length; i++) {
            for (int what = 0; what < 7; what++) {
                b.told(i, what, want[i][what]);
            }
        }
        b.open(1);
        b.point(2, 5, 3, false, 2);
    }

    private static void fullPoints() {
        Bench b = new Bench("24 POINTS");
        for (int i = 0; i < 24; i++) {
            b.point(i % 7, 100 - i, i % 17, i % 2 == 0, i);
        }
        b.point(0, 101, 0, false, -3);
        b.point(0, 100, 0, false, -1);
        b.point(7, 101, 0, false, -1);
        b.count(12, 24);
        b.told(23, 1, 77);
        b.told(24, 1, 0);
    }

    private static void commands() {
        Bench b = new Bench("command");
        int[] sorts = {0, 1, 2, 3, 4, 5, 6};
        for (int sort : sorts) {
            b.point(sort, 10 + sort, 0, false, sort);
        }
        int[] sets = {0, 1, 4};
        int made = 0;
        for (int sort = 0; sort < 3; sort++) {
            for (int point = 0; point < 7; point++) {
                boolean fits = point == sets[sort];
                b.command(sort, 30 + made, point, true, fits ? made++ : -1);
            }
            b.command(sort, 30 + made, -1, false, made++);
        }
        b.command(-1, 90, -1, false, -1);
        b.command(3, 90, -1, false, -1);
        b.command(0, 0, -1, false, -1);
        b.command(0, 16777216, -1, false, -1);
        b.command(0, 90, 7, false, -1);
        b.command(0, 90, -2, false, -1);
        b.command(0, 16777215, -1, false, made);
        b.count(13, made + 1);
    }

    private static void fullCommands() {
        Bench b = new Bench("12 COMMANDS");
        for (int i = 0; i < 12; i++) {
            b.command(i % 3, 50 + i, -1, false, i);
        }
        b.command(0, 49, -1, false, -3);
        b.command(0, 50, -1, false, -1);
        b.command(0, 49, 0, false, -1);
        b.count(13, 12);
        b.ordered(11, 2, 0);
        b.ordered(12, 2, -1);
    }

    private static void addressesAreAllUnlike() {
        Bench b = new Bench("ADDRESSES of POINTS and COMMANDS");
        b.point(0, 10, 0, false, 0);
        b.command(0, 10, 0, false, -1);
        b.command(0, 11, 0, false, 0);
        b.command(1, 11, -1, false, -1);
        b.point(0, 11, 0, false, -1);
    }

    /** Of a POINT whose numbers are all other than 0 and -1, so that a wrong answer shows. */
    private static void toldRefusesByZero() {
        Bench b = new Bench("told refuses");
        int[] edges = {Integer.MIN_VALUE, -2, -1, 1, 23, 24, Integer.MAX_VALUE};
        for (int point : edges) {
            b.told(point, 4, 0);
        }
        b.point(2, 10, 3, true, 0);
        b.change(0, 7, 17, 1);
        for (int point : edges) {
            for (int what = -1; what <= 7; what++) {
                b.told(point, what, 0);
            }
        }
        for (int what : new int[] {Integer.MIN_VALUE, -2, -1, 7, 8, Integer.MAX_VALUE}) {
            b.told(0, what, 0);
        }
        int[] want = {2, 10, 3, 1, 7, 17, 0};
        for (int what = 0; what < want.length; what++) {
            b.told(0, what, want[what]);
        }
        b.change(0, -1, 0, 1);
        b.told(0, 4, -1);
        b.count(12, 1);
    }

    private static void orderedAndClockRefuse() {
        Bench b = new Bench("ordered and clock refuse");
        b.point(0, 10, 0, false, 0);
        b.command(0, 11, 0, true, 0);
        b.ordered(0, 0, 0);
        b.ordered(0, 1, 0);
        b.ordered(0, 2, 0);
        b.ordered(0, 3, -1);
        b.ordered(0, -1, -1);
        b.ordered(-1, 0, -1);
        b.ordered(1, 0, -1);
        b.clock(-1, -1);
        b.clock(7, -1);
    }
}
