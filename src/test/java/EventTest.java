/** Promise 5, and EVENTS: what they carry, their order, and a break. */
public final class EventTest {
    public static void main(String[] args) {
        changeAnswers();
        objectsOfEachSort();
        timedObjectsOfEachSort();
        timeOfThen();
        valueOfThen();
        countersMakeNoEvents();
        fullWith40();
        fullOnlyForWhatWouldChange();
        orderBehindBreak();
        moreThan40BehindBreak();
        acknowledgedAreNotSentAgain();
        answersGoAheadOfEvents();
        commandsMakeNoEvents();
        stationOfEvents();
        Bench.finish();
    }

    private static Bench ofEachSort(String name, boolean timed) {
        Bench b = new Bench(name);
        for (int sort = 0; sort < 7; sort++) {
            b.point(sort, 0x030201 + sort, 0, timed, sort);
        }
        return b;
    }

    private static void changeAnswers() {
        Bench b = ofEachSort("change answers", false);
        b.change(2, 0, 0, 0);
        b.count(8, 0);
        b.change(2, 5, 0, 1);
        b.change(2, 5, 0, 0);
        b.change(2, 5, 1, 1);
        b.change(2, 5, 1, 0);
        b.change(2, 0, 0, 1);
        b.count(8, 3);
        b.told(2, 4, 0);
        b.told(2, 5, 0);
    }

    private static int[] event(int number, int type, int... object) {
        return Bench.data(number, 0, Bench.join(new int[] {type, 1, 3, 0, 1, 0}, object));
    }

    private static void objectsOfEachSort() {
        Bench b = ofEachSort("OBJECTS", false);
        b.started();
        b.change(0, 1, 2, 1);
        b.change(1, 3, 4, 1);
        b.change(2, -2, 9, 1);
        b.change(3, -2, 16, 1);
        b.change(4, 0x1234, 31, 1);
        b.change(5, 0x41424344, 1, 1);
        b.change(6, 77, 16, 1);
        b.outIs(event(0, 1, 1, 2, 3, 17),
            event(1, 3, 2, 2, 3, 35),
            event(2, 5, 3, 2, 3, 126, 65),
            event(3, 9, 4, 2, 3, 254, 255, 128),
            event(4, 11, 5, 2, 3, 0x34, 0x12, 241),
            event(5, 13, 6, 2, 3, 0x44, 0x43, 0x42, 0x41, 1));
        b.count(3, 6);
    }

    private static void timedObjectsOfEachSort() {
        Bench b = ofEachSort("OBJECTS with TIME", true);
        b.started();
        b.tick(1000, 0);
        b.open(1);
        b.u(Bench.START);
        b.skipOut();
        b.change(0, 1, 0, 1);
        b.change(1, 2, 0, 1);
        b.change(2, 63, 0, 1);
        b.change(3, 1, 0, 1);
        b.change(4, 1, 0, 1);
        b.change(5, 0x80000000, 0, 1);
        b.change(6, 1, 0, 1);
        // 40000 milliseconds of minute 1, never set
        int[] time = {64, 156, 129, 0, 1, 1, 0};
        b.outIs(event(0, 30, Bench.join(new int[] {1, 2, 3, 1}, time)),
            event(1, 31, Bench.join(new int[] {2, 2, 3, 2}, time)),
            event(2, 32, Bench.join(new int[] {3, 2, 3, 63, 0}, time)),
            event(3, 34, Bench.join(new int[] {4, 2, 3, 1, 0, 0}, time)),
            event(4, 35, Bench.join(new int[] {5, 2, 3, 1, 0, 0}, time)),
            event(5, 36, Bench.join(new int[] {6, 2, 3, 0, 0, 0, 128, 0}, time)));
    }

    private static void timeOfThen() {
        Bench b = new Bench("the TIME that it had");
        b.point(0, 5, 0, true, 0);
        b.tick(3, 0);
        b.change(0, 1, 0, 1);
        b.open(1);
        b.u(Bench.START);
        b.s(1);
        b.skipOut();
        b.u(Bench.STOP);
        b.u(Bench.START);
        b.i(103, 1, 6, 0, 1, 0, 0, 0, 0, 0xE8, 3, 59, 23, 31, 12, 99);
        b.s(2);
        b.u(Bench.STOP);
        b.change(0, 0, 0, 1);
        b.tick(10, 1);
        b.skipOut();
        b.u(Bench.START);
        b.outIs(Bench.frameOf(Bench.START_ANSWER),
            Bench.data(2, 1, 30, 1, 3, 0, 1, 0, 5, 0, 0, 0, 0xE8, 3, 59, 23, 31, 12, 99));
        Bench c = new Bench("the TIME that it had before THE CLOCK was set");
        c.point(0, 5, 0, true, 0);
        c.set(1, 1, 12);
        c.started();
        c.tick(3, 2);
        c.change(0, 1, 0, 1);
        c.tick(3, 2);
        c.change(0, 0, 0, 1);
        c.outIs(event(0, 30, 5, 0, 0, 1, 44, 1, 128, 0, 1, 1, 0));
        c.i(103, 1, 6, 0, 1, 0, 0, 0, 0, 0xE8, 3, 59, 23, 31, 12, 99);
        c.s(1);
        c.s(2);
        c.outIs(Bench.data(1, 1, 103, 1, 7, 0, 1, 0, 0, 0, 0, 0xE8, 3, 59, 23, 31, 12, 99),
            Bench.data(2, 1, 30, 1, 3, 0, 1, 0, 5, 0, 0, 0, 88, 2, 128, 0, 1, 1, 0));
    }

    private static void valueOfThen() {
        Bench b = new Bench("a POINT as it was then");
        b.point(4, 5, 0, false, 0);
        b.change(0, 1, 0, 1);
        b.change(0, 2, 1, 1);
        b.change(0, 3, 0, 1);
        b.open(1);
        b.u(Bench.START);
        b.outIs(Bench.frameOf(Bench.START_ANSWER), event(0, 11, 5, 0, 0, 1, 0, 0),
            event(1, 11, 5, 0, 0, 2, 0, 1), event(2, 11, 5, 0, 0, 3, 0, 0));
    }

    private static void countersMakeNoEvents() {
        Bench b = new Bench("COUNTERS");
        b.point(6, 5, 0, true, 0);
        b.point(0, 6, 0, true, 1);
        b.started();
        b.change(0, 7, 16, 1);
        b.change(0, 7, 16, 0);
        b.count(8, 0);
        b.count(2, 0);
        b.u(Bench.STOP);
        for (int i = 1; i <= 40; i++) {
            b.change(1, i % 2, 0, 1);
        }
        b.change(1, 1, 0, -3);
        b.change(0, 8, 0, 1);
        b.told(0, 4, 8);
    }

    private static void fullWith40() {
        Bench b = new Bench("40 EVENTS");
        b.point(4, 5, 0, false, 0);
        for (int i = 1; i <= 40; i++) {
            b.change(0, i, 0, 1);
        }
        b.count(8, 40);
        b.change(0, 41, 0, -3);
        b.change(0, 40, 0, 0);
        b.change(0, 40000, 0, -1);
        b.told(0, 4, 40);
        b.open(1);
        b.u(Bench.START);
        b.count(8, 28);
        b.change(0, 41, 0, 1);
        b.count(8, 29);
    }

    private static void fullOnlyForWhatWouldChange() {
        Bench b = new Bench("FULL");
        b.point(4, 5, 0, false, 0);
        b.point(6, 6, 0, false, 1);
        b.point(0, 7, 0, false, 2);
        for (int i = 1; i <= 39; i++) {
            b.change(0, i, 0, 1);
        }
        b.change(2, 1, 0, 1);
        b.count(8, 40);
        b.change(0, 38, 0, -3);
        b.change(0, 39, 1, -3);
        b.change(0, 39, 0, 0);
        b.change(2, 0, 0, -3);
        b.change(2, 1, 16, -3);
        b.change(2, 1, 0, 0);
        b.change(1, 1, 0, 1);
        b.change(1, 1, 16, 1);
        b.change(1, 1, 16, 0);
        b.told(0, 4, 39);
        b.told(0, 5, 0);
        b.told(2, 4, 1);
        b.told(2, 5, 0);
        b.count(8, 40);
    }

    private static void orderBehindBreak() {
        for (int reason = 1; reason <= 4; reason++) {
            Bench b = new Bench("EVENTS behind a break by " + reason);
            b.set(1, 3, 12);
            b.point(4, 5, 0, false, 0);
            b.started();
            for (int i = 1; i <= 5; i++) {
                b.change(0, i, 0, 1);
            }
            b.s(1);
            b.count(4, 3);
            b.count(8, 1);
            switch (reason) {
                case 1: b.close(1); break;
                case 2: b.bytes(0, 7); break;
                case 3: b.bytes(0, Bench.data(1, 1)); break;
                default: b.tick(150, 0); break;
            }
            b.closedBy(reason);
            b.count(3, 4);
            b.count(4, 0);
            b.count(8, 4);
            b.change(0, 6, 0, 1);
            b.open(1);
            b.u(Bench.START);
            b.outIs(Bench.frameOf(Bench.START_ANSWER), event(0, 11, 5, 0, 0, 2, 0, 0),
                event(1, 11, 5, 0, 0, 3, 0, 0), event(2, 11, 5, 0, 0, 4, 0, 0));
            b.s(3);
            b.outIs(event(3, 11, 5, 0, 0, 5, 0, 0), event(4, 11, 5, 0, 0, 6, 0, 0));
        }
    }

    private static void moreThan40BehindBreak() {
        Bench b = new Bench("52 EVENTS");
        b.point(4, 5, 0, false, 0);
        b.started();
        for (int i = 1; i <= 52; i++) {
            b.change(0, i, 0, 1);
        }
        b.change(0, 53, 0, -3);
        b.count(8, 40);
        b.close(1);
        b.count(8, 52);
        b.change(0, 53, 0, -3);
        b.open(1);
        b.u(Bench.START);
        b.count(8, 40);
        b.change(0, 53, 0, -3);
        b.skipOut();
        b.s(12);
        b.count(8, 28);
        b.change(0, 53, 0, 1);
        b.take(11 * 18, 18);
        b.outIs(event(23, 11, 5, 0, 0, 24, 0, 0));
        for (int ack = 24; ack <= 48; ack += 12) {
            b.s(ack);
        }
        b.count(3, 53);
        b.take(b.station.count(2) - 18, 18);
        b.outIs(event(52, 11, 5, 0, 0, 53, 0, 0));
    }

    private static void acknowledgedAreNotSentAgain() {
        Bench b = new Bench("EVENTS that were acknowledged");
        b.point(4, 5, 0, false, 0);
        b.started();
        for (int i = 1; i <= 3; i++) {
            b.change(0, i, 0, 1);
        }
        b.i(102, 1, 5, 0, 1, 0, 5, 0, 0);
        b.change(0, 4, 0, 1);
        b.s(4);
        b.close(1);
        b.count(8, 1);
        b.open(1);
        b.u(Bench.START);
        b.outIs(Bench.frameOf(Bench.START_ANSWER), event(0, 11, 5, 0, 0, 4, 0, 0));
        b.s(1);
        b.close(1);
        b.count(8, 0);
        b.open(1);
        b.u(Bench.START);
        b.outIs(Bench.frameOf(Bench.START_ANSWER));
    }

    private static void answersGoAheadOfEvents() {
        Bench b = new Bench("ANSWERS, then EVENTS");
        b.set(1, 1, 12);
        b.point(4, 5, 0, false, 0);
        b.started();
        b.change(0, 1, 0, 1);
        b.change(0, 2, 0, 1);
        b.i(102, 1, 5, 8, 1, 0, 5, 0, 0);
        b.count(7, 1);
        b.count(8, 1);
        b.skipOut();
        b.s(1);
        b.outIs(Bench.data(1, 1, 11, 1, 5, 8, 1, 0, 5, 0, 0, 2, 0, 0));
        b.count(7, 0);
        b.s(2);
        b.outIs(Bench.data(2, 1, 11, 1, 3, 0, 1, 0, 5, 0, 0, 2, 0, 0));
    }

    private static void commandsMakeNoEvents() {
        Bench b = new Bench("a COMMAND makes no EVENT");
        b.point(0, 5, 0, true, 0);
        b.command(0, 6, 0, false, 0);
        b.started();
        b.i(45, 1, 6, 0, 1, 0, 6, 0, 0, 1);
        b.told(0, 4, 1);
        b.count(3, 3);
        b.count(8, 0);
        b.change(0, 1, 0, 0);
    }

    private static void stationOfEvents() {
        Bench b = new Bench("the station in EVENTS");
        b.set(0, 65534, 1);
        b.point(0, 5, 0, false, 0);
        b.started();
        b.change(0, 1, 0, 1);
        b.outIs(Bench.data(0, 0, 1, 1, 3, 0, 254, 255, 5, 0, 0, 1));
        Bench c = new Bench("the station as it is when an EVENT is sent");
        c.point(0, 5, 0, false, 0);
        c.change(0, 1, 0, 1);
        c.set(0, 0, 1);
        c.open(1);
        c.u(Bench.START);
        c.outIs(Bench.frameOf(Bench.START_ANSWER), Bench.data(0, 0, 1, 1, 3, 0, 0, 0, 5, 0, 0, 1));
    }
}
