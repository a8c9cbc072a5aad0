/** Promises 6 to 8: opening, closing, FRAMES, START, STOP, TEST, NUMBERS, K and W. */
public final class LinkTest {
    private static final int[] NOTHING = {};

    public static void main(String[] args) {
        openAndClose();
        comeRefuses();
        framesCutAnyhow();
        bytesThatCannotBe();
        controlIsLookedAtWhenAllFourAreThere();
        controlsThatAreNone();
        lengthsThatCanBe();
        whatIsBehindGoes();
        startAndStop();
        stopWaitsForAcks();
        startEndsStopping();
        stoppingTakesDataAndSendsNone();
        tests();
        dataWhenStopped();
        wrongNumbers();
        wrongAcks();
        ackByDataFrames();
        windowK();
        windowW();
        stopAnswerComesAheadOfAck();
        numbersBehindHundredAndTwentyEight();
        openStartsAnew();
        Bench.finish();
    }

    private static void openAndClose() {
        Bench b = new Bench("open and close");
        b.close(-2);
        b.open(1);
        b.count(0, 1);
        b.count(1, 0);
        b.open(-2);
        b.close(1);
        b.closedBy(1);
        b.close(-2);
        b.open(1);
        b.count(1, 1);
    }

    private static void comeRefuses() {
        Bench b = new Bench("come refuses");
        b.come(0, 0, -1);
        b.come(9, 0, -1);
        b.come(-1, 0, -1);
        b.come(1, 104, -2);
        b.open(1);
        b.come(0, 0, -1);
        b.come(9, 0, -1);
        b.come(Integer.MIN_VALUE, 0, -1);
        b.come(Integer.MAX_VALUE, 0, -1);
        b.count(0, 1);
        b.come(1, 0xFFFFFFFFFFFFFF68L, 0);
        b.come(5, 0xFFFFFF0443000000L, 1);
        b.outIs(Bench.frameOf(Bench.TEST_ANSWER));
    }

    private static void framesCutAnyhow() {
        int[] frames = Bench.join(Bench.frameOf(Bench.TEST), Bench.frameOf(Bench.START), Bench.ackOf(0));
        for (int size = 1; size <= 8; size++) {
            Bench b = new Bench("FRAMES cut by " + size);
            b.open(1);
            int taken = 0;
            for (int from = 0; from < frames.length; from += size) {
                int n = Math.min(size, frames.length - from);
                long v = -1;
                for (int i = 0; i < n; i++) {
                    v = v << 8 | frames[from + i];
                }
                int before = taken;
                taken = (from + n) / 6;
                b.come(n, v, taken - before);
            }
            b.outIs(Bench.frameOf(Bench.TEST_ANSWER), Bench.frameOf(Bench.START_ANSWER));
            b.count(0, 2);
        }
    }

    private static void bytesThatCannotBe() {
        int[] lengths = {0, 3, 254, 255};
        for (int length : lengths) {
            Bench b = new Bench("length " + length);
            b.open(1);
            b.come(1, 104, 0);
            b.count(0, 1);
            b.come(1, length, 0);
            b.closedBy(2);
        }
        int[] starts = {0, 103, 105, 255};
        for (int start : starts) {
            Bench b = new Bench("first byte " + start);
            b.open(1);
            b.come(1, start, 0);
            b.closedBy(2);
        }
    }

    private static void controlIsLookedAtWhenAllFourAreThere() {
        Bench b = new Bench("c0 to c3");
        b.open(1);
        b.come(5, 0x680509FFFFL, 0);
        b.count(0, 1);
        b.come(1, 255, 0);
        b.closedBy(2);
    }

    private static void controlsThatAreNone() {
        int[][] wrong = {
            {4, 0, 0, 1, 0}, {4, 2, 0, 255, 3}, {10, 0, 0, 1, 0},
            {4, 1, 1, 0, 0}, {4, 1, 128, 0, 0}, {4, 1, 0, 1, 0}, {5, 1, 0, 0, 0}, {14, 1, 0, 0, 0},
            {4, 7, 1, 0, 0}, {4, 7, 0, 1, 0}, {4, 7, 0, 0, 1}, {5, 7, 0, 0, 0},
            {4, 3, 0, 0, 0}, {4, 5, 0, 0, 0}, {4, 15, 0, 0, 0}, {4, 9, 0, 0, 0}, {4, 255, 0, 0, 0},
            {4, 11, 0, 0, 128}, {4, 131, 0, 2, 0}, {6, 67, 0, 0, 0}, {4, 195, 0, 0, 0}, {4, 39, 0, 0, 0},
        };
        for (int[] c : wrong) {
            Bench b = new Bench("control " + java.util.Arrays.toString(c));
            b.started();
            b.bytes(0, 104, c[0], c[1], c[2], c[3], c[4]);
            b.closedBy(2);
        }
    }

    private static void lengthsThatCanBe() {
        Bench b = new Bench("lengths 4 and 253");
        b.started();
        b.i();
        b.count(5, 1);
        b.count(10, 1);
        int[] rest = new int[249];
        rest[0] = 200;
        rest[248] = 77;
        b.i(rest);
        b.count(3, 1);
        rest[2] = 44 | 64;
        b.outIs(Bench.data(0, 2, rest));
        b.count(10, 1);
    }

    private static void whatIsBehindGoes() {
        Bench b = new Bench("what is behind a byte that cannot be");
        b.open(1);
        b.come(8, 0x6804430000000168L, 1);
        b.closedBy(2);
        b.outIs(Bench.frameOf(Bench.TEST_ANSWER));
        b.open(1);
        b.come(3, 0x680443L, 0);
        b.close(1);
        b.open(1);
        b.u(Bench.TEST);
        b.come(2, 0x6804L, 0);
        b.come(8, 0x0900000068044300L, 0);
        b.closedBy(2);
        b.count(2, 6);
    }

    private static void startAndStop() {
        Bench b = new Bench("START and STOP");
        b.open(1);
        b.u(Bench.STOP);
        b.outIs(Bench.frameOf(Bench.STOP_ANSWER));
        b.count(0, 1);
        b.u(Bench.START);
        b.count(0, 2);
        b.u(Bench.START);
        b.count(0, 2);
        b.outIs(Bench.frameOf(Bench.START_ANSWER), Bench.frameOf(Bench.START_ANSWER));
        b.u(Bench.START_ANSWER);
        b.u(Bench.STOP_ANSWER);
        b.u(Bench.TEST_ANSWER);
        b.count(0, 2);
        b.count(2, 0);
        b.u(Bench.STOP);
        b.count(0, 1);
        b.outIs(Bench.frameOf(Bench.STOP_ANSWER));
    }

    private static void stopWaitsForAcks() {
        Bench b = new Bench("STOPPING");
        b.point(0, 5, 0, false, 0);
        b.started();
        b.change(0, 1, 0, 1);
        b.i();
        b.count(6, 1);
        b.skipOut();
        b.u(Bench.STOP);
        b.count(0, 3);
        b.count(6, 0);
        b.outIs(Bench.ackOf(1));
        b.u(Bench.STOP);
        b.count(0, 3);
        b.count(2, 0);
        b.change(0, 0, 0, 1);
        b.count(8, 1);
        b.u(Bench.TEST);
        b.outIs(Bench.frameOf(Bench.TEST_ANSWER));
        b.count(0, 3);
        b.s(1);
        b.count(0, 1);
        b.outIs(Bench.frameOf(Bench.STOP_ANSWER));
        b.count(8, 1);
        b.u(Bench.START);
        b.outIs(Bench.frameOf(Bench.START_ANSWER), Bench.data(1, 1, 1, 1, 3, 0, 1, 0, 5, 0, 0, 0));
    }

    private static void startEndsStopping() {
        Bench b = new Bench("START when STOPPING");
        b.point(0, 5, 0, false, 0);
        b.started();
        b.change(0, 1, 0, 1);
        b.u(Bench.STOP);
        b.count(0, 3);
        b.u(Bench.START);
        b.count(0, 2);
        b.s(1);
        b.count(0, 2);
        b.skipOut();
    }

    private static void stoppingTakesDataAndSendsNone() {
        Bench b = new Bench("I FRAMES when STOPPING");
        b.point(0, 5, 0, false, 0);
        b.started();
        b.change(0, 1, 0, 1);
        b.u(Bench.STOP);
        b.skipOut();
        b.i(102, 1, 5, 9, 1, 0, 5, 0, 0);
        b.count(0, 3);
        b.count(7, 1);
        b.count(5, 1);
        b.count(6, 1);
        b.s(1);
        b.count(0, 1);
        b.count(7, 1);
        b.outIs(Bench.frameOf(Bench.STOP_ANSWER));
        b.u(Bench.START);
        b.count(7, 0);
        b.outIs(Bench.frameOf(Bench.START_ANSWER), Bench.data(1, 1, 1, 1, 5, 9, 1, 0, 5, 0, 0, 1));
    }

    private static void tests() {
        Bench b = new Bench("TEST");
        b.open(1);
        b.u(Bench.TEST);
        b.outIs(Bench.frameOf(Bench.TEST_ANSWER));
        b.count(9, 0);
        b.tick(200, 1);
        b.outIs(Bench.frameOf(Bench.TEST));
        b.count(9, 1);
        b.u(Bench.TEST);
        b.count(9, 1);
        b.u(Bench.TEST_ANSWER);
        b.count(9, 0);
        b.outIs(Bench.frameOf(Bench.TEST_ANSWER));
    }

    private static void dataWhenStopped() {
        Bench b = new Bench("I when STOPPED");
        b.open(1);
        b.frame(0);
        b.closedBy(5);
        b.count(5, 0);
        b.open(1);
        b.bytes(0, Bench.data(9, 9));
        b.closedBy(5);
        b.started();
        b.u(Bench.STOP);
        b.frame(0);
        b.closedBy(5);
    }

    private static void wrongNumbers() {
        int[] wrong = {0, 2, 129, 32767};
        for (int number : wrong) {
            Bench b = new Bench("NUMBER " + number);
            b.started();
            b.i();
            b.bytes(0, Bench.data(number, 0));
            b.closedBy(3);
            b.count(5, 1);
            b.count(6, 0);
            b.count(10, 1);
        }
    }

    private static void wrongAcks() {
        int[] wrong = {0, 3, 128, 32767};
        for (int ack : wrong) {
            for (int kind = 0; kind < 2; kind++) {
                Bench b = new Bench("ACK " + ack + " of kind " + kind);
                b.point(0, 5, 0, false, 0);
                b.started();
                b.change(0, 1, 0, 1);
                b.change(0, 0, 0, 1);
                b.s(1);
                b.count(4, 1);
                b.bytes(0, kind == 0 ? Bench.ackOf(ack) : Bench.data(0, ack));
                b.closedBy(3);
                b.count(3, 2);
                b.count(4, 0);
                b.count(8, 1);
            }
        }
        Bench b = new Bench("ACK of none that was sent, when STOPPED");
        b.open(1);
        b.bytes(1, Bench.ackOf(0));
        b.bytes(0, Bench.ackOf(1));
        b.closedBy(3);
    }

    private static void ackByDataFrames() {
        Bench b = new Bench("an I FRAME acknowledges");
        b.point(0, 5, 0, false, 0);
        b.started();
        for (int i = 1; i <= 5; i++) {
            b.change(0, i % 2, 0, 1);
        }
        b.count(4, 5);
        b.bytes(1, Bench.data(0, 3));
        b.count(4, 2);
        b.bytes(1, Bench.data(1, 3));
        b.count(4, 2);
        b.bytes(1, Bench.data(2, 5));
        b.count(4, 0);
        b.count(3, 5);
        b.count(5, 3);
    }

    private static void windowK() {
        for (int k = 1; k <= 12; k += 11) {
            Bench b = new Bench("K " + k);
            b.set(1, k, 12);
            b.point(0, 5, 0, false, 0);
            b.started();
            for (int i = 1; i <= k + 3; i++) {
                b.change(0, i % 2, 0, 1);
                b.count(4, Math.min(i, k));
            }
            b.count(8, 3);
            b.s(1);
            b.count(4, k);
            b.count(3, k + 1);
            b.count(8, 2);
            b.tick(1, 2);
            b.count(3, k + 1);
        }
    }

    private static void windowW() {
        for (int w = 1; w <= 12; w += 11) {
            Bench b = new Bench("W " + w);
            b.set(2, w, 8);
            b.started();
            for (int i = 1; i < w; i++) {
                b.i();
                b.count(6, i);
                b.count(2, 0);
            }
            b.i();
            b.count(6, 0);
            b.outIs(Bench.ackOf(w));
        }
        Bench b = new Bench("an I FRAME that goes tells the ACK");
        b.set(2, 1, 8);
        b.started();
        b.i(104, 1, 6, 0, 1, 0, 0, 0, 0, 170, 85);
        b.count(6, 0);
        b.outIs(Bench.data(0, 1, 104, 1, 7, 0, 1, 0, 0, 0, 0, 170, 85));
    }

    private static void stopAnswerComesAheadOfAck() {
        Bench b = new Bench("35, then S");
        b.set(2, 1, 8);
        b.point(0, 5, 0, false, 0);
        b.started();
        b.change(0, 1, 0, 1);
        b.u(Bench.STOP);
        b.skipOut();
        b.bytes(1, Bench.data(0, 1));
        b.count(0, 1);
        b.outIs(Bench.frameOf(Bench.STOP_ANSWER), Bench.ackOf(1));
    }

    private static void numbersBehindHundredAndTwentyEight() {
        Bench b = new Bench("NUMBERS of two bytes");
        b.set(2, 12, 8);
        b.point(0, 5, 0, false, 0);
        b.started();
        for (int i = 0; i < 130; i++) {
            b.i();
        }
        b.count(5, 130);
        b.skipOut();
        for (int i = 1; i <= 130; i++) {
            b.change(0, i % 2, 0, 1);
            if (i % 12 == 0) {
                b.s(i);
            }
        }
        b.skipOut();
        b.change(0, 1, 0, 1);
        b.outIs(Bench.data(130, 130, 1, 1, 3, 0, 1, 0, 5, 0, 0, 1));
        b.s(131);
        b.count(4, 0);
        b.count(3, 131);
    }

    private static void openStartsAnew() {
        Bench b = new Bench("open starts anew");
        b.point(0, 5, 0, false, 0);
        b.started();
        b.change(0, 1, 0, 1);
        b.i(102, 1, 5, 0, 1, 0, 5, 0, 0);
        b.i();
        b.close(1);
        b.count(2, 32);
        b.count(3, 2);
        b.count(4, 0);
        b.count(5, 2);
        b.count(6, 0);
        b.open(1);
        b.outIs(NOTHING);
        b.count(3, 0);
        b.count(5, 0);
        b.u(Bench.START);
        b.outIs(Bench.frameOf(Bench.START_ANSWER), Bench.data(0, 0, 1, 1, 3, 0, 1, 0, 5, 0, 0, 1));
        b.i();
        b.count(5, 1);
    }
}
