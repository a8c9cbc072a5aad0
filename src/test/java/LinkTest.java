/** Promises 6 to 8: opening, closing, FRAMES, START, STOP, TEST, NUMBERS, K and W. */
public final class LinkTest {
    private static final int[] NOTHING = {};

    public static void main(String[] args) {
        openOnlyWhenClosed();
        closeOnlyWhenNotClosed();
        reasonIsTheLastOne();
        openStartsAnew();
        startInEveryLink();
        stopInEveryLink();
        stopSendsAnAckForDataAlone();
        answersThatChangeNothing();
        tests();
        stopWaitsForAcks();
        stoppingIsLookedAtBehindEachFrame();
        startEndsStopping();
        stoppingTakesDataAndSendsNone();
        dataWhenStopped();
        numberIsTheNext();
        wrongNumberAcknowledgesNothing();
        acksOfAckFrames();
        acksOfDataFrames();
        ackWhenStopped();
        ackByDataFrames();
        windowK();
        lessThanK();
        windowW();
        dataTellsTheAck();
        stopAnswerComesAheadOfAck();
        numbersOfTwoBytes();
        numbersThatComeBehind32767();
        numbersThatAreSentBehind32767();
        nothingWaitsBehindClosing();
        outStaysBehindClosing();
        Bench.finish();
    }

    private static void openOnlyWhenClosed() {
        for (int link = 1; link <= 3; link++) {
            Bench b = Bench.inLink("open", link);
            b.u(Bench.TEST);
            int sent = b.read(3);
            b.open(-2);
            b.count(0, link);
            b.count(3, sent);
            b.outIs(Bench.frameOf(Bench.TEST_ANSWER));
            b.close(1);
            b.open(1);
            b.count(0, 1);
        }
    }

    private static void closeOnlyWhenNotClosed() {
        Bench b = new Bench("close");
        b.close(-2);
        b.count(1, 0);
        b.open(1);
        b.come(1, 0, 0);
        b.closedBy(2);
        b.close(-2);
        b.closedBy(2);
        for (int link = 1; link <= 3; link++) {
            Bench c = Bench.inLink("close", link);
            c.close(1);
            c.closedBy(1);
            c.close(-2);
        }
    }

    private static void reasonIsTheLastOne() {
        Bench b = new Bench("the reason");
        b.count(1, 0);
        b.open(1);
        b.count(1, 0);
        b.close(1);
        b.count(1, 1);
        b.open(1);
        b.count(1, 1);
        b.frame(0);
        b.closedBy(5);
        b.open(1);
        b.count(1, 5);
        b.bytes(0, Bench.ackOf(1));
        b.closedBy(3);
        b.open(1);
        b.come(1, 105, 0);
        b.closedBy(2);
    }

    private static void startInEveryLink() {
        for (int link = 1; link <= 3; link++) {
            Bench b = Bench.inLink("START", link);
            b.u(Bench.START);
            b.count(0, 2);
            b.outIs(Bench.frameOf(Bench.START_ANSWER));
        }
    }

    private static void stopInEveryLink() {
        Bench b = Bench.inLink("STOP", 1);
        b.u(Bench.STOP);
        b.count(0, 1);
        b.outIs(Bench.frameOf(Bench.STOP_ANSWER));
        Bench c = Bench.inLink("STOP, all acknowledged", 2);
        c.u(Bench.STOP);
        c.count(0, 1);
        c.outIs(Bench.frameOf(Bench.STOP_ANSWER));
        Bench d = Bench.inLink("STOP, not all acknowledged", 2);
        d.change(0, 1, 0, 1);
        d.skipOut();
        d.u(Bench.STOP);
        d.count(0, 3);
        d.outIs(NOTHING);
        Bench e = Bench.inLink("STOP", 3);
        e.i();
        e.u(Bench.STOP);
        e.count(0, 3);
        e.outIs(NOTHING);
        e.count(6, 1);
    }

    private static void stopSendsAnAckForDataAlone() {
        for (int came = 0; came <= 2; came++) {
            Bench b = Bench.inLink("STOP behind " + came + " I FRAMES", 2);
            for (int i = 0; i < came; i++) {
                b.i();
            }
            b.u(Bench.STOP);
            b.outIs(came == 0 ? NOTHING : Bench.ackOf(came), Bench.frameOf(Bench.STOP_ANSWER));
            b.count(6, 0);
        }
        Bench b = Bench.inLink("STOP behind an I FRAME that was answered", 2);
        b.i(104, 1, 6, 0, 1, 0, 0, 0, 0, 170, 85);
        b.s(1);
        b.skipOut();
        b.u(Bench.STOP);
        b.outIs(Bench.frameOf(Bench.STOP_ANSWER));
    }

    private static void answersThatChangeNothing() {
        for (int link = 1; link <= 3; link++) {
            Bench b = Bench.inLink("11, 35, 131", link);
            b.u(Bench.START_ANSWER);
            b.u(Bench.STOP_ANSWER);
            b.u(Bench.TEST_ANSWER);
            b.count(0, link);
            b.count(9, 0);
            b.outIs(NOTHING);
        }
        Bench b = Bench.inLink("11 and 35 when a TEST waits", 1);
        b.tick(200, 1);
        b.u(Bench.START_ANSWER);
        b.u(Bench.STOP_ANSWER);
        b.count(9, 1);
    }

    private static void tests() {
        for (int link = 1; link <= 2; link++) {
            Bench b = Bench.inLink("TEST", link);
            b.u(Bench.TEST);
            b.outIs(Bench.frameOf(Bench.TEST_ANSWER));
            b.count(9, 0);
            b.tick(200, link);
            b.outIs(Bench.frameOf(Bench.TEST));
            b.count(9, 1);
            b.u(Bench.TEST);
            b.count(9, 1);
            b.u(Bench.TEST_ANSWER);
            b.count(9, 0);
            b.outIs(Bench.frameOf(Bench.TEST_ANSWER));
        }
        Bench b = Bench.inLink("TEST", 3);
        b.u(Bench.TEST);
        b.outIs(Bench.frameOf(Bench.TEST_ANSWER));
        b.count(0, 3);
    }

    private static void stoppingIsLookedAtBehindEachFrame() {
        for (int kind = 0; kind < 2; kind++) {
            Bench b = Bench.inLink("STOPPING, acknowledged by kind " + kind, 2);
            b.change(0, 1, 0, 1);
            b.change(0, 0, 0, 1);
            b.u(Bench.STOP);
            b.skipOut();
            b.s(1);
            b.u(Bench.TEST_ANSWER);
            b.tick(10, 3);
            b.count(0, 3);
            b.outIs(NOTHING);
            b.bytes(1, kind == 0 ? Bench.ackOf(2) : Bench.data(0, 2));
            b.count(0, 1);
            b.outIs(Bench.frameOf(Bench.STOP_ANSWER));
        }
    }

    private static void dataWhenStopped() {
        Bench b = new Bench("I when STOPPED");
        b.open(1);
        b.frame(0);
        b.closedBy(5);
        b.count(5, 0);
        b.open(1);
        b.bytes(0, Bench.data(9, 9));
        b.closedBy(5);
        b.started();
        b.u(Bench.STOP);
        b.frame(0);
        b.closedBy(5);
        b.count(10, 0);
        for (int link = 2; link <= 3; link++) {
            Bench c = Bench.inLink("I", link);
            c.i();
            c.count(0, link);
            c.count(5, 1);
        }
    }

    private static void numberIsTheNext() {
        for (int came : new int[] {0, 1, 2, 127, 128, 129}) {
            int[] wrong = {came - 1, came + 1, came ^ 64, came ^ 128, came ^ 16384, came + 256, 32767};
            for (int number : wrong) {
                Bench b = Bench.inLink("NUMBER " + number + " behind " + came, 2);
                for (int i = 0; i < came; i++) {
                    b.i();
                }
                b.bytes(0, Bench.data(number & 32767, 0));
                b.closedBy(3);
                b.count(5, came);
                b.count(10, came);
            }
        }
    }

    /** Its ACK is right, but the EVENT waits again. */
    private static void wrongNumberAcknowledgesNothing() {
        Bench b = Bench.inLink("a wrong NUMBER with an ACK", 2);
        b.change(0, 1, 0, 1);
        b.bytes(0, Bench.data(1, 1));
        b.closedBy(3);
        b.count(8, 1);
        Bench c = Bench.inLink("a wrong ACK with the next NUMBER", 2);
        c.bytes(0, Bench.data(0, 1, 103, 1, 6, 0, 1, 0, 0, 0, 0, 0, 0, 0, 0, 1, 1, 5));
        c.closedBy(3);
        c.count(5, 0);
        c.clock(6, 0);
    }

    /** Two of five I FRAMES are acknowledged. */
    private static void acknowledged(int ack, boolean byData) {
        Bench b = Bench.inLink("ACK " + ack + (byData ? " of I" : " of S") + " from 2 to 5", 2);
        for (int i = 1; i <= 5; i++) {
            b.change(0, i % 2, 0, 1);
        }
        b.s(2);
        boolean fits = ack >= 2 && ack <= 5;
        b.bytes(fits ? 1 : 0, byData ? Bench.data(0, ack) : Bench.ackOf(ack));
        b.count(1, fits ? 0 : 3);
        b.count(4, fits ? 5 - ack : 0);
        b.count(8, fits ? 0 : 3);
        b.count(5, fits && byData ? 1 : 0);
    }

    /** All there are, once. */
    private static void acksOfAckFrames() {
        for (int ack = 0; ack < 32768; ack++) {
            acknowledged(ack, false);
        }
    }

    private static void acksOfDataFrames() {
        for (int ack : new int[] {0, 1, 2, 3, 4, 5, 6, 7, 127, 128, 130, 133, 16386, 16389, 32766, 32767}) {
            acknowledged(ack, true);
        }
    }

    private static void ackWhenStopped() {
        Bench b = new Bench("ACK of none that was sent, when STOPPED");
        b.open(1);
        b.bytes(1, Bench.ackOf(0));
        b.bytes(0, Bench.ackOf(1));
        b.closedBy(3);
        b.open(1);
        b.bytes(0, Bench.ackOf(32767));
        b.closedBy(3);
    }

    private static void windowK() {
        for (int k = 1; k <= 12; k++) {
            Bench b = new Bench("K " + k);
            b.set(1, k, 12);
            b.point(0, 5, 0, false, 0);
            b.started();
            for (int i = 1; i <= k + 3; i++) {
                b.change(0, i % 2, 0, 1);
                b.count(4, Math.min(i, k));
            }
            b.count(8, 3);
            b.s(1);
            b.count(4, k);
            b.count(3, k + 1);
            b.count(8, 2);
            b.tick(1, 2);
            b.count(3, k + 1);
            b.s(k + 1);
            b.count(4, Math.min(2, k));
        }
    }

    /** Behind an S, an I, a START, a TEST and change(): as many go as are acknowledged, no more. */
    private static void lessThanK() {
        Bench b = new Bench("less than K");
        b.set(1, 2, 12);
        b.point(0, 5, 0, false, 0);
        for (int i = 1; i <= 9; i++) {
            b.change(0, i % 2, 0, 1);
        }
        b.open(1);
        b.count(3, 0);
        b.tick(1, 1);
        b.u(Bench.TEST);
        b.count(3, 0);
        b.u(Bench.START);
        b.count(3, 2);
        b.u(Bench.TEST);
        b.tick(1, 2);
        b.change(0, 0, 0, 1);
        b.count(3, 2);
        b.s(1);
        b.count(3, 3);
        b.bytes(1, Bench.data(0, 3));
        b.count(3, 5);
        b.count(4, 2);
        b.count(8, 5);
    }

    private static void windowW() {
        for (int w = 1; w <= 12; w++) {
            Bench b = new Bench("W " + w);
            b.set(2, w, 8);
            b.started();
            for (int round = 1; round <= 2; round++) {
                for (int i = 1; i < w; i++) {
                    b.i();
                    b.count(6, i);
                    b.count(2, 0);
                }
                b.i();
                b.count(6, 0);
                b.outIs(Bench.ackOf(round * w));
            }
        }
    }

    private static void dataTellsTheAck() {
        Bench b = new Bench("an I FRAME that goes tells the ACK");
        b.set(2, 1, 8);
        b.started();
        b.i(104, 1, 6, 0, 1, 0, 0, 0, 0, 170, 85);
        b.count(6, 0);
        b.outIs(Bench.data(0, 1, 104, 1, 7, 0, 1, 0, 0, 0, 0, 170, 85));
        Bench c = new Bench("W counts from the ACK that an I FRAME told");
        c.set(2, 3, 8);
        c.point(0, 5, 0, false, 0);
        c.started();
        c.i();
        c.i();
        c.change(0, 1, 0, 1);
        c.outIs(Bench.data(0, 2, 1, 1, 3, 0, 1, 0, 5, 0, 0, 1));
        c.count(6, 0);
        c.i();
        c.i();
        c.count(6, 2);
        c.count(2, 0);
        c.i();
        c.outIs(Bench.ackOf(5));
        Bench d = new Bench("no I FRAME may go: S tells it");
        d.set(1, 1, 12);
        d.set(2, 1, 8);
        d.point(0, 5, 0, false, 0);
        d.started();
        d.change(0, 1, 0, 1);
        d.skipOut();
        d.i(104, 1, 6, 0, 1, 0, 0, 0, 0, 170, 85);
        d.outIs(Bench.ackOf(1));
        d.count(7, 1);
    }

    /** That many cannot come by 512 calls, but the document tells what would be then. */
    private static void numbersThatComeBehind32767() {
        Bench b = Bench.beyond512("NUMBERS that come behind 32767");
        b.open(1);
        b.u(Bench.START);
        for (int i = 0; i < 32767; i++) {
            b.bytes(1, Bench.data(i, 0));
            if (i % 1000 == 0) {
                b.skipOut();
            }
        }
        b.skipOut();
        b.bytes(1, Bench.data(32767, 0));
        b.outIs(Bench.ackOf(0));
        b.bytes(1, Bench.data(0, 0));
        b.bytes(0, Bench.data(2, 0));
        b.closedBy(3);
    }

    /** Twelve that are not acknowledged, of NUMBERS 32762 to 32767 and 0 to 5. */
    private static void numbersThatAreSentBehind32767() {
        for (int wrong : new int[] {32766, 7, 16386}) {
            Bench b = Bench.beyond512("NUMBERS that are sent behind 32767");
            b.point(0, 5, 0, false, 0);
            b.started();
            for (int sent = 1; sent <= 32762; sent++) {
                b.change(0, sent % 2, 0, 1);
                if (sent % 12 == 2) {
                    b.bytes(1, Bench.ackOf(sent));
                    b.skipOut();
                }
            }
            b.count(4, 0);
            int[] due = {};
            for (int number = 32762; number < 32774; number++) {
                b.change(0, 1 - number % 2, 0, 1);
                due = Bench.join(due, Bench.data(number & 32767, 0, 1, 1, 3, 0, 1, 0, 5, 0, 0, 1 - number % 2));
            }
            b.outIs(due);
            b.bytes(1, Bench.ackOf(32767));
            b.count(4, 7);
            b.bytes(1, Bench.ackOf(0));
            b.count(4, 6);
            b.bytes(1, Bench.data(0, 6));
            b.count(4, 0);
            b.bytes(0, Bench.ackOf(wrong));
            b.closedBy(3);
        }
    }

    /** An I FRAME not acknowledged, one without an ACK, an ANSWER and a TEST that wait, and a SELECTED COMMAND. */
    private static Bench withAllThatGoes(String name) {
        Bench b = new Bench(name);
        b.set(1, 1, 12);
        b.set(3, 100, 150);
        b.set(4, 1000, 100);
        b.set(5, 10, 200);
        b.point(0, 5, 0, false, 0);
        b.command(0, 7, -1, true, 0);
        b.started();
        b.change(0, 1, 0, 1);
        b.i(45, 1, 6, 0, 1, 0, 7, 0, 0, 129);
        b.tick(10, 2);
        for (int what : new int[] {4, 6, 7, 9}) {
            b.count(what, 1);
        }
        b.count(8, 0);
        b.ordered(0, 0, 1);
        return b;
    }

    private static void nothingWaitsBehindClosing() {
        for (int reason = 1; reason <= 5; reason++) {
            Bench b = withAllThatGoes("CLOSING by " + reason);
            switch (reason) {
                case 1: b.close(1); break;
                case 2: b.bytes(0, 7); break;
                case 3: b.bytes(0, Bench.ackOf(2)); break;
                case 4: b.tick(90, 0); break;
                default:
                    b.u(Bench.STOP);
                    b.i();
                    b.s(1);
                    b.frame(0);
                    break;
            }
            b.forgotBy(reason);
            b.ordered(0, 0, 0);
            b.ordered(0, 1, 0);
            b.count(8, reason == 5 ? 0 : 1);
            b.open(1);
            b.tick(9, 1);
            b.count(2, 0);
            b.u(Bench.START);
            b.count(3, reason == 5 ? 0 : 1);
            b.tick(9, 2);
            b.count(0, 2);
        }
    }

    private static void outStaysBehindClosing() {
        Bench b = Bench.inLink("THE OUT", 2);
        b.u(Bench.TEST);
        b.change(0, 1, 0, 1);
        b.close(1);
        b.tick(1000, 0);
        b.close(-2);
        b.come(1, 104, -2);
        b.outIs(Bench.frameOf(Bench.TEST_ANSWER), Bench.data(0, 0, 1, 1, 3, 0, 1, 0, 5, 0, 0, 1));
    }

    private static void stopWaitsForAcks() {
        Bench b = new Bench("STOPPING");
        b.point(0, 5, 0, false, 0);
        b.started();
        b.change(0, 1, 0, 1);
        b.i();
        b.count(6, 1);
        b.skipOut();
        b.u(Bench.STOP);
        b.count(0, 3);
        b.count(6, 0);
        b.outIs(Bench.ackOf(1));
        b.u(Bench.STOP);
        b.count(0, 3);
        b.count(2, 0);
        b.change(0, 0, 0, 1);
        b.count(8, 1);
        b.u(Bench.TEST);
        b.outIs(Bench.frameOf(Bench.TEST_ANSWER));
        b.count(0, 3);
        b.s(1);
        b.count(0, 1);
        b.outIs(Bench.frameOf(Bench.STOP_ANSWER));
        b.count(8, 1);
        b.u(Bench.START);
        b.outIs(Bench.frameOf(Bench.START_ANSWER), Bench.data(1, 1, 1, 1, 3, 0, 1, 0, 5, 0, 0, 0));
    }

    private static void startEndsStopping() {
        Bench b = new Bench("START when STOPPING");
        b.point(0, 5, 0, false, 0);
        b.started();
        b.change(0, 1, 0, 1);
        b.u(Bench.STOP);
        b.count(0, 3);
        b.u(Bench.START);
        b.count(0, 2);
        b.s(1);
        b.count(0, 2);
        b.skipOut();
    }

    private static void stoppingTakesDataAndSendsNone() {
        Bench b = new Bench("I FRAMES when STOPPING");
        b.point(0, 5, 0, false, 0);
        b.started();
        b.change(0, 1, 0, 1);
        b.u(Bench.STOP);
        b.skipOut();
        b.i(102, 1, 5, 9, 1, 0, 5, 0, 0);
        b.count(0, 3);
        b.count(7, 1);
        b.count(5, 1);
        b.count(6, 1);
        b.s(1);
        b.count(0, 1);
        b.count(7, 1);
        b.outIs(Bench.frameOf(Bench.STOP_ANSWER));
        b.u(Bench.START);
        b.count(7, 0);
        b.outIs(Bench.frameOf(Bench.START_ANSWER), Bench.data(1, 1, 1, 1, 5, 9, 1, 0, 5, 0, 0, 1));
    }

    private static void ackByDataFrames() {
        Bench b = new Bench("an I FRAME acknowledges");
        b.point(0, 5, 0, false, 0);
        b.started();
        for (int i = 1; i <= 5; i++) {
            b.change(0, i % 2, 0, 1);
        }
        b.count(4, 5);
        b.bytes(1, Bench.data(0, 3));
        b.count(4, 2);
        b.bytes(1, Bench.data(1, 3));
        b.count(4, 2);
        b.bytes(1, Bench.data(2, 5));
        b.count(4, 0);
        b.count(3, 5);
        b.count(5, 3);
    }

    private static void stopAnswerComesAheadOfAck() {
        Bench b = new Bench("35, then S");
        b.set(2, 1, 8);
        b.point(0, 5, 0, false, 0);
        b.started();
        b.change(0, 1, 0, 1);
        b.u(Bench.STOP);
        b.skipOut();
        b.bytes(1, Bench.data(0, 1));
        b.count(0, 1);
        b.outIs(Bench.frameOf(Bench.STOP_ANSWER), Bench.ackOf(1));
    }

    private static void numbersOfTwoBytes() {
        Bench b = new Bench("NUMBERS of two bytes");
        b.set(2, 12, 8);
        b.point(0, 5, 0, false, 0);
        b.started();
        for (int i = 0; i < 130; i++) {
            b.i();
        }
        b.count(5, 130);
        b.skipOut();
        for (int i = 1; i <= 130; i++) {
            b.change(0, i % 2, 0, 1);
            if (i % 12 == 0) {
                b.s(i);
            }
        }
        b.skipOut();
        b.change(0, 1, 0, 1);
        b.outIs(Bench.data(130, 130, 1, 1, 3, 0, 1, 0, 5, 0, 0, 1));
        b.s(131);
        b.count(4, 0);
        b.count(3, 131);
    }

    private static void openStartsAnew() {
        Bench b = new Bench("open starts anew");
        b.point(0, 5, 0, false, 0);
        b.started();
        b.change(0, 1, 0, 1);
        b.i(102, 1, 5, 0, 1, 0, 5, 0, 0);
        b.i();
        b.close(1);
        b.count(2, 32);
        b.count(3, 2);
        b.count(4, 0);
        b.count(5, 2);
        b.count(6, 0);
        b.open(1);
        b.outIs(NOTHING);
        b.count(3, 0);
        b.count(5, 0);
        b.u(Bench.START);
        b.outIs(Bench.frameOf(Bench.START_ANSWER), Bench.data(0, 0, 1, 1, 3, 0, 1, 0, 5, 0, 0, 1));
        b.i();
        b.count(5, 1);
    }
}
