/** Promise 9: TICKS, and the TIMERS T1, T2, T3 and S. */
public final class TimerTest {
    private static final int[] LEAST_AND_MOST = {1, 2, 999, 1000};

    public static void main(String[] args) {
        refuses();
        answersTheLink();
        eldestFrameIsLate();
        ackMovesTheEldest();
        testIsLate();
        frameDoesNotAnswerTest();
        ackIsTimed();
        ackTimeStartsWithTheFirst();
        testBehindSilence();
        framesPutTheTestOff();
        noSecondTest();
        lateAheadOfAckAndTest();
        ackAheadOfTest();
        selectionRunsOut();
        closedLinkHasNoTimers();
        leastAndMostT1();
        leastAndMostT1OfTest();
        leastAndMostT2();
        leastAndMostT3();
        leastAndMostS();
        ackThatWasSentEndsT2();
        manyTicksAreAsOneByOne();
        Bench.finish();
    }

    private static void leastAndMostT1() {
        for (int ticks : LEAST_AND_MOST) {
            Bench b = withEvents("T1 of " + ticks);
            b.set(3, ticks, 150);
            b.set(5, 1000, 200);
            b.started();
            b.change(0, 1, 0, 1);
            b.tick(ticks - 1, 2);
            b.count(4, 1);
            b.tick(1, 0);
            b.closedBy(4);
        }
    }

    private static void leastAndMostT1OfTest() {
        for (int ticks : LEAST_AND_MOST) {
            Bench b = withEvents("T1 of " + ticks + " since TEST");
            b.set(3, ticks, 150);
            b.set(5, 1, 200);
            b.open(1);
            b.tick(1, 1);
            b.count(9, 1);
            b.tick(ticks - 1, 1);
            b.tick(1, 0);
            b.closedBy(4);
            b.outIs(Bench.frameOf(Bench.TEST));
        }
    }

    private static void leastAndMostT2() {
        for (int ticks : LEAST_AND_MOST) {
            Bench b = withEvents("T2 of " + ticks);
            b.set(4, ticks, 100);
            b.set(5, 1000, 200);
            b.started();
            b.i();
            b.tick(ticks - 1, 2);
            b.count(2, 0);
            b.count(6, 1);
            b.tick(1, 2);
            b.count(6, 0);
            b.outIs(Bench.ackOf(1), ticks == 1000 ? Bench.frameOf(Bench.TEST) : new int[0]);
        }
    }

    private static void leastAndMostT3() {
        for (int ticks : LEAST_AND_MOST) {
            Bench b = withEvents("T3 of " + ticks);
            b.set(5, ticks, 200);
            b.open(1);
            b.tick(ticks - 1, 1);
            b.count(2, 0);
            b.tick(1, 1);
            b.outIs(Bench.frameOf(Bench.TEST));
            b.u(Bench.TEST_ANSWER);
            b.tick(ticks - 1, 1);
            b.count(9, 0);
            b.tick(1, 1);
            b.count(9, 1);
        }
    }

    private static void leastAndMostS() {
        for (int ticks : LEAST_AND_MOST) {
            Bench b = new Bench("S of " + ticks);
            b.set(5, 1000, 200);
            b.set(6, ticks, 300);
            b.command(0, 7, -1, true, 0);
            b.started();
            b.i(45, 1, 6, 2, 1, 0, 7, 0, 0, 129);
            b.s(1);
            b.ordered(0, 1, ticks);
            b.tick(ticks - 1, 2);
            b.ordered(0, 0, 1);
            b.ordered(0, 1, 1);
            b.tick(1, 2);
            b.ordered(0, 0, 0);
            b.ordered(0, 1, 0);
        }
    }

    private static void ackThatWasSentEndsT2() {
        Bench b = withEvents("an ACK by W, STOP or I ends T2");
        b.set(2, 2, 8);
        b.set(4, 5, 100);
        b.started();
        b.i();
        b.tick(4, 2);
        b.i();
        b.outIs(Bench.ackOf(2));
        b.tick(6, 2);
        b.i();
        b.u(Bench.STOP);
        b.outIs(Bench.ackOf(3), Bench.frameOf(Bench.STOP_ANSWER));
        b.tick(6, 1);
        b.u(Bench.START);
        b.i();
        b.change(0, 1, 0, 1);
        b.outIs(Bench.frameOf(Bench.START_ANSWER), Bench.data(0, 4, 1, 1, 3, 0, 1, 0, 5, 0, 0, 1));
        b.tick(6, 2);
        b.count(2, 0);
        b.i();
        b.tick(4, 2);
        b.count(2, 0);
        b.tick(1, 2);
        b.outIs(Bench.ackOf(5));
        Bench c = withEvents("T2 when it is STOPPED");
        c.started();
        c.change(0, 1, 0, 1);
        c.u(Bench.STOP);
        c.i();
        c.s(1);
        c.skipOut();
        c.tick(99, 1);
        c.count(6, 1);
        c.tick(1, 1);
        c.outIs(Bench.ackOf(1));
    }

    /** TEST behind 200 TICKS, CLOSED behind 150 more, and THE CLOCK goes on. */
    private static void manyTicksAreAsOneByOne() {
        Bench b = withEvents("400 TICKS at once");
        b.open(1);
        b.tick(400, 0);
        Bench c = withEvents("400 TICKS one by one");
        c.open(1);
        for (int i = 1; i <= 400; i++) {
            c.tick(1, i < 350 ? 1 : 0);
        }
        for (Bench one : new Bench[] {b, c}) {
            one.closedBy(4);
            one.outIs(Bench.frameOf(Bench.TEST));
            one.clockIs(40000, 0, 0, 1, 1, 0, 0);
        }
    }

    private static void refuses() {
        Bench b = new Bench("tick refuses");
        b.tick(-1, -1);
        b.tick(1001, -1);
        b.tick(Integer.MIN_VALUE, -1);
        b.tick(Integer.MAX_VALUE, -1);
        b.clockIs(0, 0);
        b.tick(0, 0);
        b.tick(1000, 0);
        b.clockIs(40000, 1);
    }

    private static void answersTheLink() {
        Bench b = new Bench("tick answers THE LINK");
        b.point(0, 5, 0, false, 0);
        b.tick(1, 0);
        b.open(1);
        b.tick(1, 1);
        b.u(Bench.START);
        b.tick(1, 2);
        b.change(0, 1, 0, 1);
        b.u(Bench.STOP);
        b.tick(1, 3);
    }

    private static Bench withEvents(String name) {
        Bench b = new Bench(name);
        b.point(0, 5, 0, false, 0);
        return b;
    }

    private static void eldestFrameIsLate() {
        Bench b = withEvents("T1");
        b.set(3, 10, 150);
        b.started();
        b.change(0, 1, 0, 1);
        b.tick(9, 2);
        b.change(0, 0, 0, 1);
        b.tick(1, 0);
        b.closedBy(4);
        b.count(8, 2);
    }

    private static void ackMovesTheEldest() {
        Bench b = withEvents("T1 of the next");
        b.set(3, 10, 150);
        b.started();
        b.change(0, 1, 0, 1);
        b.tick(4, 2);
        b.change(0, 0, 0, 1);
        b.tick(5, 2);
        b.s(1);
        b.tick(4, 2);
        b.tick(1, 0);
        b.closedBy(4);
        Bench c = withEvents("no T1 when all is acknowledged");
        c.set(3, 10, 150);
        c.started();
        c.change(0, 1, 0, 1);
        c.s(1);
        c.tick(199, 2);
    }

    private static void testIsLate() {
        Bench b = new Bench("T1 of a TEST");
        b.set(3, 10, 150);
        b.set(5, 20, 200);
        b.open(1);
        b.tick(20, 1);
        b.count(9, 1);
        b.tick(9, 1);
        b.tick(1, 0);
        b.closedBy(4);
        b.count(9, 0);
        b.outIs(Bench.frameOf(Bench.TEST));
    }

    private static void frameDoesNotAnswerTest() {
        Bench b = new Bench("only 131 answers a TEST");
        b.set(3, 10, 150);
        b.set(5, 20, 200);
        b.open(1);
        b.tick(20, 1);
        b.tick(5, 1);
        b.u(Bench.START);
        b.tick(5, 0);
        b.closedBy(4);
        Bench c = new Bench("131 answers a TEST");
        c.set(3, 10, 150);
        c.set(5, 20, 200);
        c.open(1);
        c.tick(20, 1);
        c.tick(9, 1);
        c.u(Bench.TEST_ANSWER);
        c.tick(19, 1);
        c.count(9, 0);
        c.tick(1, 1);
        c.count(9, 1);
    }

    private static void ackIsTimed() {
        Bench b = new Bench("T2");
        b.set(4, 10, 100);
        b.started();
        b.i();
        b.tick(9, 2);
        b.count(2, 0);
        b.count(6, 1);
        b.tick(1, 2);
        b.count(6, 0);
        b.outIs(Bench.ackOf(1));
        b.tick(50, 2);
        b.count(2, 0);
    }

    private static void ackTimeStartsWithTheFirst() {
        Bench b = withEvents("T2 from the first");
        b.set(4, 10, 100);
        b.started();
        b.i();
        b.tick(5, 2);
        b.i();
        b.tick(5, 2);
        b.outIs(Bench.ackOf(2));
        b.i();
        b.tick(5, 2);
        b.change(0, 1, 0, 1);
        b.skipOut();
        b.i();
        b.tick(9, 2);
        b.count(2, 0);
        b.tick(1, 2);
        b.outIs(Bench.ackOf(4));
    }

    private static void testBehindSilence() {
        Bench b = new Bench("T3");
        b.set(5, 10, 200);
        b.tick(100, 0);
        b.open(1);
        b.tick(9, 1);
        b.count(2, 0);
        b.tick(1, 1);
        b.outIs(Bench.frameOf(Bench.TEST));
    }

    private static void framesPutTheTestOff() {
        Bench b = withEvents("T3 from the latest FRAME");
        b.set(5, 10, 200);
        b.open(1);
        b.tick(5, 1);
        b.come(3, 0x680443, 0);
        b.tick(4, 1);
        b.come(3, 0, 1);
        b.tick(9, 1);
        b.count(9, 0);
        b.u(Bench.START);
        b.tick(5, 2);
        b.change(0, 1, 0, 1);
        b.tick(4, 2);
        b.count(9, 0);
        b.tick(1, 2);
        b.count(9, 1);
    }

    private static void noSecondTest() {
        Bench b = new Bench("one TEST at a time");
        b.set(5, 10, 200);
        b.open(1);
        b.tick(100, 1);
        b.outIs(Bench.frameOf(Bench.TEST));
        b.u(Bench.TEST_ANSWER);
        b.tick(10, 1);
        b.outIs(Bench.frameOf(Bench.TEST));
    }

    private static void lateAheadOfAckAndTest() {
        Bench b = withEvents("T1, T2 and T3 at once");
        b.set(3, 10, 150);
        b.set(4, 10, 100);
        b.set(5, 10, 200);
        b.started();
        b.change(0, 1, 0, 1);
        b.i();
        b.skipOut();
        b.tick(10, 0);
        b.closedBy(4);
        b.count(2, 0);
    }

    private static void ackAheadOfTest() {
        Bench b = new Bench("T2 and T3 at once");
        b.set(4, 10, 100);
        b.set(5, 10, 200);
        b.started();
        b.i();
        b.tick(10, 2);
        b.outIs(Bench.ackOf(1), Bench.frameOf(Bench.TEST));
    }

    private static void selectionRunsOut() {
        Bench b = new Bench("S");
        b.set(6, 3, 300);
        b.command(0, 7, -1, true, 0);
        b.started();
        b.tick(20, 2);
        b.i(45, 1, 6, 2, 1, 0, 7, 0, 0, 129);
        b.ordered(0, 0, 1);
        b.ordered(0, 1, 3);
        b.tick(2, 2);
        b.ordered(0, 0, 1);
        b.ordered(0, 1, 1);
        b.tick(1, 2);
        b.ordered(0, 0, 0);
        b.ordered(0, 1, 0);
    }

    private static void closedLinkHasNoTimers() {
        Bench b = new Bench("CLOSED");
        b.open(1);
        b.close(1);
        b.tick(1000, 0);
        b.count(2, 0);
        b.count(1, 1);
        b.open(1);
        b.tick(199, 1);
        b.count(2, 0);
    }
}
