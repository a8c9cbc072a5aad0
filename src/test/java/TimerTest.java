/** Promise 9: TICKS, and the TIMERS T1, T2, T3 and S. */
public final class TimerTest {
    public static void main(String[] args) {
        refuses();
        answersTheLink();
        eldestFrameIsLate();
        ackMovesTheEldest();
        testIsLate();
        frameDoesNotAnswerTest();
        ackIsTimed();
        ackTimeStartsWithTheFirst();
        testBehindSilence();
        framesPutTheTestOff();
        noSecondTest();
        lateAheadOfAckAndTest();
        ackAheadOfTest();
        selectionRunsOut();
        closedLinkHasNoTimers();
        Bench.finish();
    }

    private static void refuses() {
        Bench b = new Bench("tick refuses");
        b.tick(-1, -1);
        b.tick(1001, -1);
        b.tick(Integer.MIN_VALUE, -1);
        b.tick(Integer.MAX_VALUE, -1);
        b.clockIs(0, 0);
        b.tick(0, 0);
        b.tick(1000, 0);
        b.clockIs(40000, 1);
    }

    private static void answersTheLink() {
        Bench b = new Bench("tick answers THE LINK");
        b.point(0, 5, 0, false, 0);
        b.tick(1, 0);
        b.open(1);
        b.tick(1, 1);
        b.u(Bench.START);
        b.tick(1, 2);
        b.change(0, 1, 0, 1);
        b.u(Bench.STOP);
        b.tick(1, 3);
    }

    private static Bench withEvents(String name) {
        Bench b = new Bench(name);
        b.point(0, 5, 0, false, 0);
        return b;
    }

    private static void eldestFrameIsLate() {
        Bench b = withEvents("T1");
        b.set(3, 10, 150);
        b.started();
        b.change(0, 1, 0, 1);
        b.tick(9, 2);
        b.change(0, 0, 0, 1);
        b.tick(1, 0);
        b.closedBy(4);
        b.count(8, 2);
    }

    private static void ackMovesTheEldest() {
        Bench b = withEvents("T1 of the next");
        b.set(3, 10, 150);
        b.started();
        b.change(0, 1, 0, 1);
        b.tick(4, 2);
        b.change(0, 0, 0, 1);
        b.tick(5, 2);
        b.s(1);
        b.tick(4, 2);
        b.tick(1, 0);
        b.closedBy(4);
        Bench c = withEvents("no T1 when all is acknowledged");
        c.set(3, 10, 150);
        c.started();
        c.change(0, 1, 0, 1);
        c.s(1);
        c.tick(199, 2);
    }

    private static void testIsLate() {
        Bench b = new Bench("T1 of a TEST");
        b.set(3, 10, 150);
        b.set(5, 20, 200);
        b.open(1);
        b.tick(20, 1);
        b.count(9, 1);
        b.tick(9, 1);
        b.tick(1, 0);
        b.closedBy(4);
        b.count(9, 0);
        b.outIs(Bench.frameOf(Bench.TEST));
    }

    private static void frameDoesNotAnswerTest() {
        Bench b = new Bench("only 131 answers a TEST");
        b.set(3, 10, 150);
        b.set(5, 20, 200);
        b.open(1);
        b.tick(20, 1);
        b.tick(5, 1);
        b.u(Bench.START);
        b.tick(5, 0);
        b.closedBy(4);
        Bench c = new Bench("131 answers a TEST");
        c.set(3, 10, 150);
        c.set(5, 20, 200);
        c.open(1);
        c.tick(20, 1);
        c.tick(9, 1);
        c.u(Bench.TEST_ANSWER);
        c.tick(19, 1);
        c.count(9, 0);
        c.tick(1, 1);
        c.count(9, 1);
    }

    private static void ackIsTimed() {
        Bench b = new Bench("T2");
        b.set(4, 10, 100);
        b.started();
        b.i();
        b.tick(9, 2);
        b.count(2, 0);
        b.count(6, 1);
        b.tick(1, 2);
        b.count(6, 0);
        b.outIs(Bench.ackOf(1));
        b.tick(50, 2);
        b.count(2, 0);
    }

    private static void ackTimeStartsWithTheFirst() {
        Bench b = withEvents("T2 from the first");
        b.set(4, 10, 100);
        b.started();
        b.i();
        b.tick(5, 2);
        b.i();
        b.tick(5, 2);
        b.outIs(Bench.ackOf(2));
        b.i();
        b.tick(5, 2);
        b.change(0, 1, 0, 1);
        b.skipOut();
        b.i();
        b.tick(9, 2);
        b.count(2, 0);
        b.tick(1, 2);
        b.outIs(Bench.ackOf(4));
    }

    private static void testBehindSilence() {
        Bench b = new Bench("T3");
        b.set(5, 10, 200);
        b.tick(100, 0);
        b.open(1);
        b.tick(9, 1);
        b.count(2, 0);
        b.tick(1, 1);
        b.outIs(Bench.frameOf(Bench.TEST));
    }

    private static void framesPutTheTestOff() {
        Bench b = withEvents("T3 from the latest FRAME");
        b.set(5, 10, 200);
        b.open(1);
        b.tick(5, 1);
        b.come(3, 0x680443, 0);
        b.tick(4, 1);
        b.come(3, 0, 1);
        b.tick(9, 1);
        b.count(9, 0);
        b.u(Bench.START);
        b.tick(5, 2);
        b.change(0, 1, 0, 1);
        b.tick(4, 2);
        b.count(9, 0);
        b.tick(1, 2);
        b.count(9, 1);
    }

    private static void noSecondTest() {
        Bench b = new Bench("one TEST at a time");
        b.set(5, 10, 200);
        b.open(1);
        b.tick(100, 1);
        b.outIs(Bench.frameOf(Bench.TEST));
        b.u(Bench.TEST_ANSWER);
        b.tick(10, 1);
        b.outIs(Bench.frameOf(Bench.TEST));
    }

    private static void lateAheadOfAckAndTest() {
        Bench b = withEvents("T1, T2 and T3 at once");
        b.set(3, 10, 150);
        b.set(4, 10, 100);
        b.set(5, 10, 200);
        b.started();
        b.change(0, 1, 0, 1);
        b.i();
        b.skipOut();
        b.tick(10, 0);
        b.closedBy(4);
        b.count(2, 0);
    }

    private static void ackAheadOfTest() {
        Bench b = new Bench("T2 and T3 at once");
        b.set(4, 10, 100);
        b.set(5, 10, 200);
        b.started();
        b.i();
        b.tick(10, 2);
        b.outIs(Bench.ackOf(1), Bench.frameOf(Bench.TEST));
    }

    private static void selectionRunsOut() {
        Bench b = new Bench("S");
        b.set(6, 3, 300);
        b.command(0, 7, -1, true, 0);
        b.started();
        b.tick(20, 2);
        b.i(45, 1, 6, 2, 1, 0, 7, 0, 0, 129);
        b.ordered(0, 0, 1);
        b.ordered(0, 1, 3);
        b.tick(2, 2);
        b.ordered(0, 0, 1);
        b.ordered(0, 1, 1);
        b.tick(1, 2);
        b.ordered(0, 0, 0);
        b.ordered(0, 1, 0);
    }

    private static void closedLinkHasNoTimers() {
        Bench b = new Bench("CLOSED");
        b.open(1);
        b.close(1);
        b.tick(1000, 0);
        b.count(2, 0);
        b.count(1, 1);
        b.open(1);
        b.tick(199, 1);
        b.count(2, 0);
    }
}
