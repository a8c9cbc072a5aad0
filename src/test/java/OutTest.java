/** Promises 10 and 11: THE OUT, byte by byte, and what happens when it has no room. */
public final class OutTest {
    private static final int LEAST = Integer.MIN_VALUE, MOST = Integer.MAX_VALUE;

    public static void main(String[] args) {
        outOfNothing();
        outBounds();
        takeBounds();
        takeByAndBy();
        roomForControls();
        roomForAcks();
        roomForTimedFrames();
        roomForEvents();
        roomForAnswers();
        firstOfTwoHasRoom();
        closingForWantOfRoom();
        fullAgain();
        Bench.finish();
    }

    private static void outOfNothing() {
        Bench b = new Bench("THE OUT is empty");
        for (int opened = 0; opened < 2; opened++) {
            for (int i : new int[] {LEAST, -1, 0, 1, 4095, 4096, MOST}) {
                b.out(i, -1);
            }
            for (int n : new int[] {LEAST, -1, 1, 4096, MOST}) {
                b.take(n, -1);
            }
            b.take(0, 0);
            if (opened == 0) {
                b.open(1);
            }
        }
    }

    private static void outBounds() {
        Bench b = new Bench("out");
        b.open(1);
        b.u(Bench.TEST);
        for (int i : new int[] {LEAST, -1, 6, 7, MOST}) {
            b.out(i, -1);
        }
        int[] due = Bench.frameOf(Bench.TEST_ANSWER);
        for (int i = 0; i < 6; i++) {
            b.out(i, due[i]);
        }
        b.take(2, 4);
        b.out(0, 131);
        b.out(3, 0);
        b.out(4, -1);
    }

    private static void takeBounds() {
        Bench b = new Bench("take");
        b.open(1);
        b.u(Bench.TEST);
        for (int n : new int[] {LEAST, -1, 7, 4096, MOST}) {
            b.take(n, -1);
        }
        b.count(2, 6);
        b.take(0, 6);
        b.take(5, 1);
        b.take(2, -1);
        b.take(1, 0);
        b.take(1, -1);
    }

    private static void takeByAndBy() {
        Bench b = new Bench("take, and more is sent");
        b.open(1);
        b.u(Bench.TEST);
        b.take(2, 4);
        b.u(Bench.TEST);
        b.out(0, 131);
        b.out(6, 131);
        b.take(0, 10);
        b.close(1);
        b.out(6, 131);
        b.take(10, 0);
        b.out(0, -1);
    }

    /** A station that is STARTED, with POINT 0 of ADDRESS 5 and just so much room in THE OUT. */
    private static Bench filled(String name, int room) {
        Bench b = new Bench(name);
        b.point(0, 5, 0, false, 0);
        for (int i = 1; i < 24; i++) {
            b.point(5, 5 + i, 1, false, i);
        }
        b.started();
        // Two ANSWERS of 16 bytes, three of 60 and one of 52.
        int round = 2 * 16 + 3 * 60 + 52;
        int sent = 0;
        int left = 4096 - room;
        for (; left >= round + 15; left -= round) {
            b.i(100, 1, 6, 0, 1, 0, 0, 0, 0, 21);
            sent += 6;
            b.s(sent);
        }
        for (; left > 0; left = left > 255 ? left - 100 : 0) {
            int[] rest = new int[(left > 255 ? 100 : left) - 6];
            rest[0] = 200;
            b.i(rest);
            sent++;
            b.s(sent);
        }
        b.count(2, 4096 - room);
        b.count(0, 2);
        return b;
    }

    private static void sent(Bench b) {
        b.count(2, 4096);
        b.due("THE LINK is not CLOSED", b.read(0) != 0);
    }

    private static void notSent(Bench b, int room) {
        b.forgotBy(6);
        b.count(2, 4096 - room);
        b.due("the last byte is there", b.station.out(4095 - room) >= 0);
        b.out(4096 - room, -1);
    }

    /** 11, 35 and 131 need six bytes. */
    private static void roomForControls() {
        for (int control : new int[] {Bench.START, Bench.STOP, Bench.TEST}) {
            Bench b = filled("room for the answer to " + control, 6);
            b.u(control);
            sent(b);
            for (int room : new int[] {5, 0}) {
                Bench c = filled("no room for the answer to " + control, room);
                c.bytes(0, Bench.frameOf(control));
                notSent(c, room);
            }
        }
    }

    /** S by W, and S by STOP when an I FRAME (of 16 bytes) is not acknowledged. */
    private static void roomForAcks() {
        for (int room = 5; room <= 6; room++) {
            Bench b = filled("S by W, room for " + room, room);
            for (int i = 1; i <= 7; i++) {
                b.i();
            }
            b.frame(room == 6 ? 1 : 0);
            Bench c = filled("S by STOP, room for " + room, 16 + room);
            c.change(0, 1, 0, 1);
            c.i();
            c.bytes(room == 6 ? 1 : 0, Bench.frameOf(Bench.STOP));
            for (Bench one : new Bench[] {b, c}) {
                if (room == 6) {
                    sent(one);
                } else {
                    notSent(one, room);
                }
            }
            c.count(8, room == 6 ? 0 : 1);
        }
    }

    private static void roomForTimedFrames() {
        for (int room = 5; room <= 6; room++) {
            Bench b = filled("S by T2, room for " + room, room);
            b.i();
            b.tick(99, 2);
            b.tick(1, room == 6 ? 2 : 0);
            Bench c = filled("TEST by T3, room for " + room, room);
            c.tick(199, 2);
            c.tick(1, room == 6 ? 2 : 0);
            c.count(9, room == 6 ? 1 : 0);
            for (Bench one : new Bench[] {b, c}) {
                if (room == 6) {
                    sent(one);
                } else {
                    notSent(one, room);
                }
            }
        }
    }

    /** An EVENT of 16 bytes; it waits on where it has no room. */
    private static void roomForEvents() {
        Bench b = filled("room for an EVENT", 16);
        b.change(0, 1, 0, 1);
        sent(b);
        b.count(8, 0);
        Bench c = filled("no room for an EVENT", 15);
        int before = c.read(3);
        c.change(0, 1, 0, 1);
        notSent(c, 15);
        c.count(3, before);
        c.count(8, 1);
        c.told(0, 4, 1);
        c.open(1);
        c.count(2, 0);
        c.u(Bench.START);
        c.outIs(Bench.frameOf(Bench.START_ANSWER), Bench.data(0, 0, 1, 1, 3, 0, 1, 0, 5, 0, 0, 1));
    }

    /** An ANSWER of 17 bytes; it goes where it has no room. */
    private static void roomForAnswers() {
        int[] rest = {104, 1, 6, 0, 1, 0, 0, 0, 0, 170, 85};
        Bench b = filled("room for an ANSWER", 17);
        b.i(rest);
        sent(b);
        Bench c = filled("no room for an ANSWER", 16);
        int before = c.read(3);
        c.frame(0, rest);
        notSent(c, 16);
        c.count(3, before);
        c.open(1);
        c.u(Bench.START);
        c.outIs(Bench.frameOf(Bench.START_ANSWER));
    }

    private static void firstOfTwoHasRoom() {
        Bench b = filled("7 has room, 10 has none", 16 + 15);
        int before = b.read(3);
        b.frame(0, 100, 1, 6, 0, 1, 0, 0, 0, 0, 36);
        notSent(b, 15);
        b.count(3, before + 1);
        Bench c = filled("11 has room, the EVENT behind it has none", 6 + 15);
        c.u(Bench.STOP);
        c.take(6, 4096 - 21);
        c.change(0, 1, 0, 1);
        c.bytes(0, Bench.frameOf(Bench.START));
        notSent(c, 15);
        c.count(8, 1);
    }

    private static void closingForWantOfRoom() {
        Bench b = filled("what goes when THE LINK CLOSES by 6", 16 + 5);
        b.change(0, 1, 0, 1);
        b.i();
        b.bytes(0, Bench.frameOf(Bench.TEST));
        notSent(b, 5);
        b.count(8, 1);
        b.tick(1000, 0);
        b.count(2, 4091);
        b.open(1);
        b.count(2, 0);
        b.u(Bench.START);
        b.outIs(Bench.frameOf(Bench.START_ANSWER), Bench.data(0, 0, 1, 1, 3, 0, 1, 0, 5, 0, 0, 1));
    }

    private static void fullAgain() {
        Bench b = filled("a FRAME that just fits", 6);
        b.u(Bench.TEST);
        b.count(2, 4096);
        b.out(4092, 131);
        b.out(4095, 0);
        b.out(4096, -1);
        b.take(4090, 6);
        b.u(Bench.TEST);
        b.outIs(Bench.frameOf(Bench.TEST_ANSWER), Bench.frameOf(Bench.TEST_ANSWER));
        Bench c = filled("full, six bytes go, and full again", 6);
        c.u(Bench.TEST);
        c.take(6, 4090);
        c.u(Bench.TEST);
        c.count(2, 4096);
        c.out(4086, 131);
        c.out(4092, 131);
        c.take(5, 4091);
        c.bytes(0, Bench.frameOf(Bench.TEST));
        c.closedBy(6);
        c.count(2, 4091);
    }
}
