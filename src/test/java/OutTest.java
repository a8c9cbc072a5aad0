/** Promises 10 and 11: THE OUT, byte by byte, and what happens when it has no room. */
public final class OutTest {
    public static void main(String[] args) {
        outAndTake();
        controlHasNoRoom();
        ackHasNoRoom();
        eventHasNoRoom();
        answerHasNoRoom();
        timedFramesHaveNoRoom();
        justFull();
        Bench.finish();
    }

    private static void outAndTake() {
        Bench b = new Bench("out and take");
        b.out(0, -1);
        b.take(1, -1);
        b.take(-1, -1);
        b.take(0, 0);
        b.open(1);
        b.u(Bench.TEST);
        b.out(-1, -1);
        b.out(6, -1);
        b.out(Integer.MAX_VALUE, -1);
        b.out(Integer.MIN_VALUE, -1);
        b.out(0, 104);
        b.out(5, 0);
        b.out(2, 131);
        b.take(7, -1);
        b.take(Integer.MIN_VALUE, -1);
        b.take(Integer.MAX_VALUE, -1);
        b.count(2, 6);
        b.take(2, 4);
        b.out(0, 131);
        b.u(Bench.TEST);
        b.out(6, 131);
        b.take(0, 10);
        b.close(1);
        b.out(6, 131);
        b.take(10, 0);
        b.out(0, -1);
    }

    /** A station that is STARTED, with POINT 0 of ADDRESS 5 and just so much room in THE OUT. */
    private static Bench filled(String name, int room) {
        Bench b = new Bench(name);
        b.point(0, 5, 0, false, 0);
        for (int i = 1; i < 24; i++) {
            b.point(5, 5 + i, 1, false, i);
        }
        b.started();
        // Two ANSWERS of 16 bytes, three of 60 and one of 52.
        int round = 2 * 16 + 3 * 60 + 52;
        int sent = 0;
        int left = 4096 - room;
        for (; left >= round + 15; left -= round) {
            b.i(100, 1, 6, 0, 1, 0, 0, 0, 0, 21);
            sent += 6;
            b.s(sent);
        }
        for (; left > 0; left = left > 255 ? left - 100 : 0) {
            int[] rest = new int[(left > 255 ? 100 : left) - 6];
            rest[0] = 200;
            b.i(rest);
            sent++;
            b.s(sent);
        }
        b.count(2, 4096 - room);
        b.count(0, 2);
        return b;
    }

    private static void controlHasNoRoom() {
        Bench b = filled("131 has no room", 5);
        b.bytes(0, Bench.frameOf(Bench.TEST));
        b.closedBy(6);
        b.count(2, 4091);
        b.out(4090, 0);
        b.out(4091, -1);
        b.open(1);
        b.count(2, 0);
    }

    private static void ackHasNoRoom() {
        Bench b = filled("S has no room", 5);
        b.i();
        b.count(6, 1);
        b.bytes(0, Bench.frameOf(Bench.STOP));
        b.closedBy(6);
        b.count(6, 0);
        b.count(2, 4091);
    }

    private static void eventHasNoRoom() {
        Bench b = filled("an EVENT has no room", 15);
        int sent = b.station.count(3);
        b.change(0, 1, 0, 1);
        b.closedBy(6);
        b.count(2, 4081);
        b.count(3, sent);
        b.count(8, 1);
        b.told(0, 4, 1);
        b.open(1);
        b.u(Bench.START);
        b.outIs(Bench.frameOf(Bench.START_ANSWER), Bench.data(0, 0, 1, 1, 3, 0, 1, 0, 5, 0, 0, 1));
    }

    private static void answerHasNoRoom() {
        Bench b = filled("an ANSWER has no room", 16);
        b.frame(0, 104, 1, 6, 0, 1, 0, 0, 0, 0, 170, 85);
        b.closedBy(6);
        b.count(7, 0);
        b.count(2, 4080);
    }

    private static void timedFramesHaveNoRoom() {
        Bench b = filled("T2 has no room", 5);
        b.i();
        b.tick(99, 2);
        b.tick(1, 0);
        b.closedBy(6);
        Bench c = filled("TEST has no room", 5);
        c.tick(199, 2);
        c.tick(1, 0);
        c.closedBy(6);
        c.count(9, 0);
    }

    private static void justFull() {
        Bench b = filled("a FRAME that just fits", 6);
        b.u(Bench.TEST);
        b.count(2, 4096);
        b.out(4092, 131);
        b.out(4095, 0);
        b.out(4096, -1);
        b.take(4090, 6);
        b.u(Bench.TEST);
        b.outIs(Bench.frameOf(Bench.TEST_ANSWER), Bench.frameOf(Bench.TEST_ANSWER));
    }
}
