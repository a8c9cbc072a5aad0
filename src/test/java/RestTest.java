import java.time.YearMonth;
import java.util.Arrays;

/** Part 3: interrogations, counters, readings, clocks and tests. */
public final class RestTest {
    private static final int DENIED = 64, T = 128;

    public static void main(String[] args) {
        interrogationOfAll();
        interrogationOfGroups();
        eachGroupAlone();
        interrogationOfNone();
        interrogationByAddresses();
        sixObjectsAtMost();
        oneSortThatFollows();
        interrogationDenied();
        interrogationEnded();
        interrogationWithT();
        counters();
        sixCountersAtMost();
        countersOfNone();
        countersOnly();
        countersDenied();
        ordersOfCounters();
        countersWithT();
        readings();
        readingWithBytesBehind();
        readingsWithT();
        clocks();
        timesOfDay();
        days();
        tests();
        Bench.finish();
    }

    private static void interrogationOfAll() {
        Bench b = new Bench("100, q 20");
        for (int sort = 0; sort < 7; sort++) {
            b.point(sort, 16 + sort, sort, sort % 2 == 0, sort);
        }
        b.change(0, 1, 16, 1);
        b.change(5, 0x40490FDB, 8, 1);
        b.open(1);
        b.u(Bench.START);
        b.skipOut();
        b.i(100, 1, 6, 9, 255, 255, 0, 0, 0, 20);
        b.outIs(Bench.data(2, 1, 100, 1, 7, 9, 255, 255, 0, 0, 0, 20),
            Bench.data(3, 1, 1, 1, 20, 0, 1, 0, 16, 0, 0, 129),
            Bench.data(4, 1, 3, 1, 20, 0, 1, 0, 17, 0, 0, 0),
            Bench.data(5, 1, 5, 1, 20, 0, 1, 0, 18, 0, 0, 0, 0),
            Bench.data(6, 1, 9, 1, 20, 0, 1, 0, 19, 0, 0, 0, 0, 0),
            Bench.data(7, 1, 11, 1, 20, 0, 1, 0, 20, 0, 0, 0, 0, 0),
            Bench.data(8, 1, 13, 1, 20, 0, 1, 0, 21, 0, 0, 0xDB, 0x0F, 0x49, 0x40, 64),
            Bench.data(9, 1, 100, 1, 10, 9, 255, 255, 0, 0, 0, 20));
        b.count(6, 0);
    }

    private static void interrogationOfGroups() {
        Bench b = new Bench("100, q 21 to 36");
        b.point(0, 16, 0, false, 0);
        b.point(0, 17, 1, false, 1);
        b.point(0, 18, 16, false, 2);
        b.point(6, 19, 1, false, 3);
        b.point(0, 20, 1, false, 4);
        b.started();
        b.i(100, 1, 6, 9, 1, 0, 0, 0, 0, 21);
        b.outIs(Bench.data(0, 1, 100, 1, 7, 9, 1, 0, 0, 0, 0, 21),
            Bench.data(1, 1, 1, 2, 21, 0, 1, 0, 17, 0, 0, 0, 20, 0, 0, 0),
            Bench.data(2, 1, 100, 1, 10, 9, 1, 0, 0, 0, 0, 21));
        b.i(100, 1, 6, 9, 1, 0, 0, 0, 0, 36);
        b.outIs(Bench.data(3, 2, 100, 1, 7, 9, 1, 0, 0, 0, 0, 36),
            Bench.data(4, 2, 1, 1, 36, 0, 1, 0, 18, 0, 0, 0),
            Bench.data(5, 2, 100, 1, 10, 9, 1, 0, 0, 0, 0, 36));
        b.i(100, 1, 6, 9, 1, 0, 0, 0, 0, 35);
        b.outIs(Bench.data(6, 3, 100, 1, 7, 9, 1, 0, 0, 0, 0, 35),
            Bench.data(7, 3, 100, 1, 10, 9, 1, 0, 0, 0, 0, 35));
    }

    private static void interrogationByAddresses() {
        Bench b = new Bench("100 by ADDRESSES, six a FRAME");
        // 13 SINGLES and a DOUBLE amid them, made from the highest ADDRESS down, then up.
        int[] addresses = {14, 13, 12, 11, 10, 9, 8, 1, 2, 3, 4, 5, 6, 7};
        for (int i = 0; i < addresses.length; i++) {
            b.point(addresses[i] == 3 ? 1 : 0, addresses[i], 0, i % 2 == 0, i);
        }
        b.point(6, 15, 0, false, 14);
        b.point(0, 16, 0, false, 15);
        b.started();
        b.i(100, 1, 6, 9, 1, 0, 0, 0, 0, 20);
        b.take(16, 20 + 16 + 36 + 36 + 16);
        b.outIs(Bench.data(1, 1, 1, 2, 20, 0, 1, 0, 1, 0, 0, 0, 2, 0, 0, 0),
            Bench.data(2, 1, 3, 1, 20, 0, 1, 0, 3, 0, 0, 0),
            Bench.data(3, 1, 1, 6, 20, 0, 1, 0, 4, 0, 0, 0, 5, 0, 0, 0, 6, 0, 0, 0, 7, 0, 0, 0, 8, 0, 0, 0, 9, 0, 0, 0),
            Bench.data(4, 1, 1, 6, 20, 0, 1, 0,
                10, 0, 0, 0, 11, 0, 0, 0, 12, 0, 0, 0, 13, 0, 0, 0, 14, 0, 0, 0, 16, 0, 0, 0),
            Bench.data(5, 1, 100, 1, 10, 9, 1, 0, 0, 0, 0, 20));
    }

    private static void interrogationWithT() {
        Bench b = Bench.withCommands("100 with T");
        b.i(100, 1, 6 | T, 9, 1, 0, 0, 0, 0, 20);
        b.outIs(Bench.data(0, 1, 100, 1, 7 | T, 9, 1, 0, 0, 0, 0, 20),
            Bench.data(1, 1, 100, 1, 10 | T, 9, 1, 0, 0, 0, 0, 20));
    }

    /** Sends an order and sees that it is answered by 7 and 10, and these rests between. */
    private static void orderAll(Bench b, int[] order, int[]... between) {
        int sent = b.read(3);
        int came = b.read(5) + 1;
        b.i(order);
        int[] answer = order.clone();
        answer[2] = 7;
        int[] all = Bench.data(sent, came, answer);
        for (int i = 0; i < between.length; i++) {
            all = Bench.join(all, Bench.data(sent + 1 + i, came, between[i]));
        }
        int last = sent + 1 + between.length;
        answer[2] = 10;
        b.outIs(all, Bench.data(last, came, answer));
        b.s(last + 1);
    }

    private static void counterOrder(Bench b, int asked, int[]... between) {
        orderAll(b, new int[] {101, 1, 6, 3, 1, 0, 0, 0, 0, asked}, between);
    }

    private static void counters() {
        Bench b = new Bench("101");
        b.point(6, 9, 3, true, 0);
        b.point(0, 8, 3, false, 1);
        b.point(6, 7, 0, false, 2);
        b.change(0, -2, 0, 1);
        b.change(2, 258, 16, 1);
        b.started();
        counterOrder(b, 5, new int[] {15, 2, 37, 0, 1, 0, 7, 0, 0, 0, 0, 0, 0, 128, 9, 0, 0, 0, 0, 0, 0, 0});
        counterOrder(b, 64 | 5);
        b.count(11, 1);
        b.told(0, 6, -2);
        b.told(0, 4, -2);
        b.told(2, 6, 258);
        b.told(1, 6, 0);
        b.change(2, 3, 0, 1);
        counterOrder(b, 5, new int[] {15, 2, 37, 0, 1, 0, 7, 0, 0, 2, 1, 0, 0, 1, 9, 0, 0, 254, 255, 255, 255, 1});
        counterOrder(b, 128 | 5);
        b.count(11, 2);
        b.told(2, 6, 3);
        b.told(2, 4, 0);
        b.told(0, 4, 0);
        b.told(0, 6, -2);
        b.change(0, 5, 0, 1);
        counterOrder(b, 192 | 5);
        b.count(11, 2);
        b.told(0, 4, 0);
        b.told(0, 6, -2);
    }

    private static void countersOnly() {
        Bench b = new Bench("101 leaves other POINTS alone");
        b.point(4, 9, 0, false, 0);
        b.change(0, 7, 1, 1);
        b.open(1);
        b.u(Bench.START);
        b.skipOut();
        b.s(1);
        for (int order = 0; order < 4; order++) {
            counterOrder(b, order << 6 | 5);
            b.told(0, 4, 7);
            b.told(0, 5, 1);
            b.told(0, 6, 0);
        }
        b.count(11, 2);
    }

    private static void countersWithT() {
        Bench b = new Bench("101 with T");
        b.point(6, 9, 0, false, 0);
        b.change(0, 4, 0, 1);
        b.started();
        int sent = 0;
        for (int order = 0; order < 4; order++) {
            b.i(101, 1, 6 | T, 3, 1, 0, 0, 0, 0, order << 6 | 5);
            b.outIs(Bench.data(sent, order + 1, 101, 1, 7 | T, 3, 1, 0, 0, 0, 0, order << 6 | 5),
                Bench.data(sent + 1, order + 1, 101, 1, 10 | T, 3, 1, 0, 0, 0, 0, order << 6 | 5));
            sent += 2;
        }
        b.count(11, 0);
        b.told(0, 4, 4);
        b.told(0, 6, 0);
    }

    private static void readings() {
        Bench b = new Bench("102");
        for (int sort = 0; sort < 7; sort++) {
            b.point(sort, 16 + sort, sort, sort % 2 == 1, sort);
        }
        b.change(6, -2, 16, 1);
        b.started();
        int[][] objects = {{1, 0}, {3, 0}, {5, 0, 0}, {9, 0, 0, 0}, {11, 0, 0, 0}, {13, 0, 0, 0, 0, 0},
            {15, 254, 255, 255, 255, 128}};
        for (int sort = 0; sort < 7; sort++) {
            b.i(102, 1, 5, 200, 1, 0, 16 + sort, 0, 0);
            int[] head = {objects[sort][0], 1, 5, 200, 1, 0, 16 + sort, 0, 0};
            int[] behind = Arrays.copyOfRange(objects[sort], 1, objects[sort].length);
            b.outIs(Bench.data(sort, sort + 1, Bench.join(head, behind)));
        }
    }

    private static void readingWithBytesBehind() {
        for (int behind = 0; behind <= 3; behind++) {
            Bench b = Bench.withCommands("102 with " + behind + " bytes behind");
            int[] rest = Bench.join(new int[] {102, 1, 5, 9, 1, 0, 5, 0, 0}, new int[behind]);
            if (behind > 0) {
                b.passedBy(rest);
            } else {
                b.i(rest);
                b.outIs(Bench.data(0, 1, 1, 1, 5, 9, 1, 0, 5, 0, 0, 0));
            }
        }
    }

    private static void readingsWithT() {
        Bench b = Bench.withCommands("102 with T");
        b.i(102, 1, 5 | T, 3, 1, 0, 5, 0, 0);
        b.count(7, 0);
        b.count(3, 0);
        b.count(5, 1);
        b.count(10, 0);
    }

    private static void clocks() {
        Bench b = Bench.withCommands("103");
        b.clock(6, 0);
        b.i(103, 1, 6 | T, 3, 1, 0, 0, 0, 0, 1, 2, 3, 4, 5, 6, 7);
        b.clockIs(0, 0, 0, 1, 1, 0, 0);
        b.outIs(Bench.data(0, 1, 103, 1, 7 | T, 3, 1, 0, 0, 0, 0, 1, 2, 3, 4, 5, 6, 7));
        b.i(103, 1, 6, 3, 255, 255, 0, 0, 0, 1, 2, 3, 4, 5, 6, 7);
        b.clockIs(513, 3, 4, 5, 6, 7, 1);
        b.outIs(Bench.data(1, 2, 103, 1, 7, 3, 255, 255, 0, 0, 0, 1, 2, 3, 4, 5, 6, 7));
    }

    /** Seventeen POINTS, one of each GROUP: that of GROUP 0 is shown by 20 alone. */
    private static void eachGroupAlone() {
        for (int q = 21; q <= 36; q++) {
            Bench b = new Bench("q " + q);
            for (int group = 0; group <= 16; group++) {
                b.point(0, 100 - group, group, false, group);
            }
            b.started();
            interrogate(b, q, new int[] {1, 1, q, 0, 1, 0, 100 - (q - 20), 0, 0, 0});
        }
    }

    private static void interrogate(Bench b, int q, int[]... between) {
        orderAll(b, new int[] {100, 1, 6, 9, 1, 0, 0, 0, 0, q}, between);
    }

    private static void interrogationOfNone() {
        for (int q = 20; q <= 36; q++) {
            Bench b = new Bench("no POINTS");
            b.started();
            interrogate(b, q);
            Bench c = new Bench("COUNTERS alone");
            c.point(6, 5, q - 20, false, 0);
            c.started();
            interrogate(c, q);
        }
    }

    private static int[] objects(int type, int cause, int first, int many, int bytes) {
        int[] rest = new int[6 + many * (3 + bytes)];
        rest[0] = type;
        rest[1] = many;
        rest[2] = cause;
        rest[4] = 1;
        for (int i = 0; i < many; i++) {
            rest[6 + i * (3 + bytes)] = first + i;
        }
        return rest;
    }

    /** Of SINGLE and of FLOAT, the shortest and the longest OBJECTS, 1 to 24 of them. */
    private static void sixObjectsAtMost() {
        for (int sort = 0; sort <= 5; sort += 5) {
            for (int many = 1; many <= 24; many++) {
                Bench b = new Bench(many + " POINTS of SORT " + sort);
                int[][] due = new int[(many + 5) / 6][];
                for (int i = 0; i < many; i++) {
                    b.point(sort, 1 + i, 0, false, i);
                }
                for (int i = 0; i < due.length; i++) {
                    int type = sort == 0 ? 1 : 13;
                    due[i] = objects(type, 20, 1 + 6 * i, Math.min(6, many - 6 * i), sort == 0 ? 1 : 5);
                }
                b.started();
                interrogate(b, 20, due);
            }
        }
    }

    /** SORTS 0, 0, 3, 4, 4, 0 by ADDRESSES: a FRAME for each run; and one run again where 3 and 4 are not asked for. */
    private static void oneSortThatFollows() {
        Bench b = new Bench("OBJECTS of one SORT that follow one another");
        int[] sorts = {0, 0, 3, 4, 4, 0};
        for (int i = 0; i < sorts.length; i++) {
            b.point(sorts[i], 1 + i, sorts[i] == 0 ? 1 : 2, true, i);
        }
        b.started();
        interrogate(b, 20, objects(1, 20, 1, 2, 1), objects(9, 20, 3, 1, 3), objects(11, 20, 4, 2, 3),
            objects(1, 20, 6, 1, 1));
        interrogate(b, 21, new int[] {1, 3, 21, 0, 1, 0, 1, 0, 0, 0, 2, 0, 0, 0, 6, 0, 0, 0});
    }

    private static void interrogationDenied() {
        for (int q = 0; q < 256; q++) {
            Bench b = Bench.withCommands("100, q " + q);
            if (q < 20 || q > 36) {
                b.same(7 | DENIED, 100, 1, 6, 3, 1, 0, 0, 0, 0, q);
                b.same(7 | DENIED | T, 100, 1, 6 | T, 3, 1, 0, 0, 0, 0, q);
            } else {
                b.i(100, 1, 6, 3, 1, 0, 0, 0, 0, q);
                b.count(3, q <= 21 ? 3 : 2);
            }
        }
    }

    private static void interrogationEnded() {
        for (int q = 19; q <= 37; q++) {
            Bench b = Bench.withCommands("100, CAUSE 8, q " + q);
            b.same(9 | DENIED, 100, 1, 8, 3, 1, 0, 0, 0, 0, q);
            b.same(9 | DENIED | T, 100, 1, 8 | T, 3, 1, 0, 0, 0, 0, q);
        }
    }

    private static void sixCountersAtMost() {
        for (int many = 1; many <= 24; many++) {
            Bench b = new Bench(many + " COUNTERS");
            int[][] due = new int[(many + 5) / 6][];
            for (int i = 0; i < many; i++) {
                b.point(6, 1 + i, i % 17, i % 2 == 0, i);
            }
            for (int i = 0; i < due.length; i++) {
                due[i] = objects(15, 37, 1 + 6 * i, Math.min(6, many - 6 * i), 5);
            }
            b.started();
            counterOrder(b, 5, due);
        }
    }

    private static void countersOfNone() {
        Bench b = new Bench("101 when there is no COUNTER");
        b.point(0, 1, 0, false, 0);
        b.started();
        for (int order = 0; order < 4; order++) {
            counterOrder(b, order << 6 | 5);
        }
        b.count(11, 2);
    }

    private static void countersDenied() {
        for (int asked = 0; asked < 256; asked++) {
            if ((asked & 63) != 5) {
                Bench b = Bench.withCommands("101 by " + asked);
                b.change(1, 7, 0, 1);
                b.same(7 | DENIED, 101, 1, 6, 3, 1, 0, 0, 0, 0, asked);
                b.same(7 | DENIED | T, 101, 1, 6 | T, 3, 1, 0, 0, 0, 0, asked);
                b.count(11, 0);
                b.told(1, 4, 7);
                b.told(1, 6, 0);
            }
        }
    }

    /** From VALUE 7 and FROZEN VALUE 3, behind one FREEZE. */
    private static void ordersOfCounters() {
        int[] values = {7, 7, 0, 0};
        int[] frozen = {3, 7, 7, 3};
        int[] freezes = {1, 2, 2, 1};
        for (int order = 0; order < 4; order++) {
            Bench b = new Bench("101, its upper two " + order);
            b.point(6, 5, 0, false, 0);
            b.change(0, 3, 16, 1);
            b.started();
            counterOrder(b, 64 | 5);
            b.change(0, 7, 16, 1);
            if (order == 0) {
                counterOrder(b, 5, new int[] {15, 1, 37, 0, 1, 0, 5, 0, 0, 3, 0, 0, 0, 129});
            } else {
                counterOrder(b, order << 6 | 5);
            }
            b.told(0, 4, values[order]);
            b.told(0, 5, 16);
            b.told(0, 6, frozen[order]);
            b.count(11, freezes[order]);
            b.count(8, 0);
        }
    }

    /** Sets the clock by these seven bytes: it becomes that, or 7 is denied and it stays. */
    private static void timeCame(boolean isTime, int... time) {
        Bench b = Bench.withCommands("103 " + Arrays.toString(time));
        b.same(isTime ? 7 : 7 | DENIED, Bench.join(new int[] {103, 1, 6, 3, 1, 0, 0, 0, 0}, time));
        if (isTime) {
            b.clockIs(time[0] + 256 * time[1], time[2], time[3], time[4], time[5], time[6], 1);
        } else {
            b.clockIs(0, 0, 0, 1, 1, 0, 0);
        }
    }

    private static void timesOfDay() {
        for (int milliseconds : new int[] {0, 1, 255, 256, 32767, 32768, 59999, 60000, 60001, 65535}) {
            timeCame(milliseconds < 60000, milliseconds & 255, milliseconds >> 8, 59, 23, 1, 1, 1);
        }
        for (int part = 0; part < 256; part++) {
            timeCame(part < 60, 95, 234, part, 23, 1, 1, 1);
            timeCame(part < 24, 95, 234, 59, part, 1, 1, 1);
        }
    }

    /** Every month and its neighbours in every year and behind them, told by the library's calendar. */
    private static void days() {
        int[] days = {0, 1, 28, 29, 30, 31, 32, 33, 63, 65, 129, 255};
        int[] months = {0, 1, 2, 3, 4, 5, 6, 7, 8, 9, 10, 11, 12, 13, 17, 33, 130, 255};
        for (int year = 0; year <= 101; year++) {
            for (int month : months) {
                boolean isMonth = month >= 1 && month <= 12 && year < 100;
                int last = isMonth ? YearMonth.of(2000 + year, month).lengthOfMonth() : 0;
                for (int day : days) {
                    timeCame(day >= 1 && day <= last, 0, 0, 0, 0, day, month, year);
                }
            }
        }
        for (int year = 102; year < 256; year++) {
            timeCame(false, 0, 0, 0, 0, 1, 1, year);
        }
    }

    private static void tests() {
        Bench b = Bench.withCommands("104");
        b.same(7, 104, 1, 6, 3, 1, 0, 0, 0, 0, 170, 85);
        b.same(7 | T, 104, 1, 6 | T, 3, 1, 0, 0, 0, 0, 170, 85);
        b.same(7 | DENIED, 104, 1, 6, 3, 1, 0, 0, 0, 0, 85, 170);
        b.same(7 | DENIED | T, 104, 1, 6 | T, 3, 1, 0, 0, 0, 0, 85, 170);
        for (int bit = 1; bit < 256; bit *= 2) {
            Bench c = Bench.withCommands("104 with another bit " + bit);
            c.same(7 | DENIED, 104, 1, 6, 3, 1, 0, 0, 0, 0, 170 ^ bit, 85);
            c.same(7 | DENIED, 104, 1, 6, 3, 1, 0, 0, 0, 0, 170, 85 ^ bit);
        }
    }
}
