/** Promise 14: THE CLOCK, from year 0 on and behind year 99. */
public final class ClockTest {
    public static void main(String[] args) {
        refuses();
        goesOnByTicks();
        hoursAndDays();
        endsOfMonths();
        february();
        behindYear99();
        goesOnWhenClosed();
        oddMilliseconds();
        Bench.finish();
    }

    private static void refuses() {
        Bench b = new Bench("clock refuses");
        b.clock(-1, -1);
        b.clock(7, -1);
        b.clock(Integer.MAX_VALUE, -1);
        b.clock(Integer.MIN_VALUE, -1);
    }

    private static void goesOnByTicks() {
        Bench b = new Bench("TICKS");
        b.tick(1, 0);
        b.clockIs(100, 0, 0, 1, 1, 0, 0);
        b.tick(598, 0);
        b.clockIs(59900, 0, 0, 1, 1, 0, 0);
        b.tick(1, 0);
        b.clockIs(0, 1, 0, 1, 1, 0, 0);
    }

    private static void hoursAndDays() {
        Bench b = new Bench("hours");
        for (int i = 0; i < 36; i++) {
            b.tick(1000, 0);
        }
        b.clockIs(0, 0, 1, 1, 1, 0, 0);
    }

    /** A station whose clock shows a tenth of a second before midnight of this day. */
    private static Bench before(String name, int day, int month, int year) {
        Bench b = new Bench(name + " " + day + "." + month + "." + year);
        b.started();
        b.i(103, 1, 6, 0, 1, 0, 0, 0, 0, 59900 & 255, 59900 >> 8, 59, 23, day, month, year);
        b.clockIs(59900, 59, 23, day, month, year, 1);
        return b;
    }

    private static void endsOfMonths() {
        int[] days = {31, 28, 31, 30, 31, 30, 31, 31, 30, 31, 30, 31};
        for (int month = 1; month <= 12; month++) {
            Bench b = before("the day ahead of the last", days[month - 1] - 1, month, 5);
            b.tick(1, 2);
            b.clockIs(0, 0, 0, days[month - 1], month, 5, 1);
            Bench c = before("the last day", days[month - 1], month, 5);
            c.tick(1, 2);
            c.clockIs(0, 0, 0, 1, month % 12 + 1, month == 12 ? 6 : 5, 1);
        }
    }

    private static void february() {
        for (int year = 0; year < 100; year++) {
            Bench b = before("February", 28, 2, year);
            b.tick(1, 2);
            if (year % 4 == 0) {
                b.clockIs(0, 0, 0, 29, 2, year, 1);
            } else {
                b.clockIs(0, 0, 0, 1, 3, year, 1);
            }
        }
        Bench b = before("February", 29, 2, 96);
        b.tick(1, 2);
        b.clockIs(0, 0, 0, 1, 3, 96, 1);
    }

    private static void behindYear99() {
        Bench b = before("behind year 99", 31, 12, 99);
        b.tick(1, 2);
        b.clockIs(0, 0, 0, 1, 1, 0, 1);
    }

    private static void goesOnWhenClosed() {
        Bench b = before("CLOSED", 1, 1, 7);
        b.close(1);
        b.tick(11, 0);
        b.clockIs(1000, 0, 0, 2, 1, 7, 1);
        b.open(1);
        b.clock(6, 1);
    }

    private static void oddMilliseconds() {
        Bench b = new Bench("odd milliseconds");
        b.started();
        b.i(103, 1, 6, 0, 1, 0, 0, 0, 0, 59999 & 255, 59999 >> 8, 0, 0, 1, 1, 0);
        b.tick(1, 2);
        b.clockIs(99, 1, 0, 1, 1, 0, 1);
    }
}
