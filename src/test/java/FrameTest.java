/** Promise 8, and part 2's first lines: how bytes become FRAMES, and which bytes cannot be. */
public final class FrameTest {
    private static final int LEAST = Integer.MIN_VALUE, MOST = Integer.MAX_VALUE;

    public static void main(String[] args) {
        comeRefuses();
        comeWhenClosed();
        lowestBitsHighestFirst();
        framesCutAnyhow();
        firstBytes();
        lengths();
        leastAndMostLength();
        firstControls();
        thirdControlOfData();
        secondControlOfAcks();
        thirdControlOfAcks();
        lengthOfAcks();
        controlsBehindU();
        lengthOfU();
        asSoonAsItCannotBe();
        framesThatCloseAreNotTaken();
        whatIsBehindGoes();
        halfAFrameGoesWithTheLink();
        Bench.finish();
    }

    private static void comeRefuses() {
        for (int link = 0; link <= 3; link++) {
            Bench b = Bench.inLink("come refuses", link);
            for (int n : new int[] {LEAST, -1, 0, 9, MOST}) {
                b.come(n, 0x6804430000000000L, -1);
            }
            b.count(0, link);
            b.count(2, 0);
        }
        Bench b = new Bench("come refuses within a FRAME");
        b.open(1);
        b.come(3, 0x680443, 0);
        b.come(0, 0, -1);
        b.come(9, 0, -1);
        b.come(3, 0, 1);
        b.outIs(Bench.frameOf(Bench.TEST_ANSWER));
    }

    private static void comeWhenClosed() {
        Bench b = new Bench("come when CLOSED");
        b.come(1, 104, -2);
        b.come(8, -1, -2);
        b.open(1);
        b.come(5, 0x6804430000L, 0);
        b.close(1);
        b.come(1, 0, -2);
        b.count(1, 1);
        b.open(1);
        b.u(Bench.TEST);
    }

    /** One to eight bytes a call, with ones in all the bits above them. */
    private static void lowestBitsHighestFirst() {
        Bench b = new Bench("the lowest 8 n bits");
        b.open(1);
        b.come(1, 0xFFFFFFFFFFFFFF68L, 0);
        b.come(5, 0xFFFFFF0443000000L, 1);
        b.come(6, 0xFFFF680443000000L, 1);
        b.come(7, 0xFF68044300000068L, 1);
        b.come(8, 0x0443000000680443L, 1);
        b.come(2, 0xFFFFFFFFFFFF0000L, 0);
        b.come(4, 0xFFFFFFFF00680443L, 1);
        b.come(3, 0xFFFFFFFFFF000000L, 1);
        b.count(2, 36);
        b.count(0, 1);
    }

    private static void framesCutAnyhow() {
        int[] frames = Bench.join(Bench.frameOf(Bench.TEST), Bench.frameOf(Bench.START), Bench.ackOf(0),
            Bench.data(0, 0, 104, 1, 6, 0, 1, 0, 0, 0, 0, 170, 85));
        int[] ends = {6, 12, 18, 35};
        for (int size = 1; size <= 8; size++) {
            Bench b = new Bench("FRAMES cut by " + size);
            b.open(1);
            int taken = 0;
            for (int from = 0; from < frames.length; from += size) {
                int n = Math.min(size, frames.length - from);
                long v = -1;
                for (int i = 0; i < n; i++) {
                    v = v << 8 | frames[from + i];
                }
                int before = taken;
                while (taken < ends.length && ends[taken] <= from + n) {
                    taken++;
                }
                b.come(n, v, taken - before);
            }
            b.outIs(Bench.frameOf(Bench.TEST_ANSWER), Bench.frameOf(Bench.START_ANSWER),
                Bench.data(0, 1, 104, 1, 7, 0, 1, 0, 0, 0, 0, 170, 85));
            b.count(0, 2);
        }
    }

    private static void firstBytes() {
        for (int first = 0; first < 256; first++) {
            Bench b = new Bench("first byte " + first);
            b.open(1);
            b.come(1, first, 0);
            b.count(0, first == 104 ? 1 : 0);
            b.count(1, first == 104 ? 0 : 2);
        }
    }

    private static void lengths() {
        for (int length = 0; length < 256; length++) {
            Bench b = new Bench("length " + length);
            b.open(1);
            b.come(1, 104, 0);
            b.count(0, 1);
            b.come(1, length, 0);
            boolean canBe = length >= 4 && length <= 253;
            b.count(0, canBe ? 1 : 0);
            b.count(1, canBe ? 0 : 2);
        }
    }

    private static void leastAndMostLength() {
        for (int length : new int[] {4, 5, 252, 253}) {
            Bench b = Bench.inLink("an I FRAME of length " + length, 2);
            int[] frame = Bench.data(0, 0, new int[length - 4]);
            for (int i = 0; i < frame.length; i++) {
                b.come(1, frame[i], i == frame.length - 1 ? 1 : 0);
            }
            b.count(5, 1);
            b.count(10, length < 13 ? 1 : 0);
            b.count(3, length < 13 ? 0 : 1);
        }
        Bench b = Bench.inLink("the longest rest", 2);
        int[] rest = new int[249];
        rest[0] = 200;
        rest[248] = 77;
        b.same(44 | 64, rest);
    }

    /** Every c0, the others 0, of length 4: I by an even one, of which NUMBER 0 is the next. */
    private static void firstControls() {
        for (int c0 = 0; c0 < 256; c0++) {
            Bench b = Bench.inLink("c0 " + c0, 2);
            boolean isU = c0 == 7 || c0 == 11 || c0 == 19 || c0 == 35 || c0 == 67 || c0 == 131;
            boolean isTaken = c0 == 0 || c0 == 1 || isU;
            b.bytes(isTaken ? 1 : 0, 104, 4, c0, 0, 0, 0);
            b.count(1, isTaken ? 0 : c0 % 2 == 0 ? 3 : 2);
        }
    }

    private static void thirdControlOfData() {
        for (int c2 = 1; c2 < 256; c2 += 2) {
            Bench b = Bench.inLink("I with c2 " + c2, 2);
            b.bytes(0, 104, 4, 0, 0, c2, 0);
            b.closedBy(2);
            Bench c = Bench.inLink("I with c2 " + c2, 1);
            c.bytes(0, 104, 20, 0, 0, c2, 0);
            c.closedBy(2);
        }
    }

    private static void secondControlOfAcks() {
        for (int c1 = 1; c1 < 256; c1++) {
            Bench b = Bench.inLink("S with c1 " + c1, 2);
            b.bytes(0, 104, 4, 1, c1, 0, 0);
            b.closedBy(2);
        }
    }

    private static void thirdControlOfAcks() {
        for (int c2 = 0; c2 < 256; c2++) {
            Bench b = Bench.inLink("S with c2 " + c2, 2);
            b.bytes(c2 == 0 ? 1 : 0, 104, 4, 1, 0, c2, 0);
            b.count(1, c2 == 0 ? 0 : c2 % 2 == 0 ? 3 : 2);
        }
    }

    private static void lengthOfAcks() {
        for (int length = 5; length <= 253; length++) {
            Bench b = Bench.inLink("S of length " + length, 2);
            b.bytes(0, 104, length, 1, 0, 0);
            b.count(0, 2);
            b.come(1, 0, 0);
            b.closedBy(2);
        }
    }

    private static void controlsBehindU() {
        for (int c0 : new int[] {7, 11, 19, 35, 67, 131}) {
            for (int bit = 1; bit < 256; bit *= 2) {
                for (int place = 3; place <= 5; place++) {
                    Bench b = Bench.inLink("U " + c0 + " with " + bit + " in byte " + place, 2);
                    int[] frame = Bench.frameOf(c0);
                    frame[place] = bit;
                    b.bytes(0, frame);
                    b.closedBy(2);
                    b.count(2, 0);
                }
            }
        }
    }

    private static void lengthOfU() {
        for (int c0 : new int[] {7, 11, 19, 35, 67, 131}) {
            for (int length : new int[] {5, 6, 252, 253}) {
                Bench b = Bench.inLink("U " + c0 + " of length " + length, 2);
                b.bytes(0, 104, length, c0, 0, 0);
                b.count(0, 2);
                b.come(1, 0, 0);
                b.closedBy(2);
            }
        }
    }

    /** c0 to c3 are looked at when all four are there, whichever of them is wrong; then at once. */
    private static void asSoonAsItCannotBe() {
        int[][] wrong = {{4, 9, 0, 0, 0}, {4, 3, 255, 255, 255}, {4, 1, 1, 0, 0}, {253, 0, 0, 1, 0}, {4, 7, 0, 1, 0},
            {5, 1, 0, 0, 0}};
        for (int[] frame : wrong) {
            Bench b = new Bench("as soon as " + java.util.Arrays.toString(frame));
            b.open(1);
            b.come(1, 104, 0);
            for (int i = 0; i < 4; i++) {
                b.come(1, frame[i], 0);
                b.count(0, 1);
            }
            b.come(1, frame[4], 0);
            b.closedBy(2);
        }
    }

    /** Each reason by which a FRAME CLOSES, behind a TEST in the same bytes, which is taken. */
    private static void framesThatCloseAreNotTaken() {
        int[] test = Bench.frameOf(Bench.TEST);
        Bench b = Bench.inLink("a FRAME that CLOSES by 2", 2);
        b.bytes(1, Bench.join(test, new int[] {104, 4, 9, 0, 0, 0}, test));
        b.closedBy(2);
        Bench c = Bench.inLink("a FRAME that CLOSES by 3", 2);
        c.bytes(1, Bench.join(test, Bench.data(1, 0), test));
        c.closedBy(3);
        Bench d = Bench.inLink("a FRAME that CLOSES by 5", 1);
        d.bytes(1, Bench.join(test, Bench.data(0, 0), test));
        d.closedBy(5);
        b.count(2, 6);
        c.count(2, 6);
        d.count(2, 6);
    }

    private static void whatIsBehindGoes() {
        Bench b = new Bench("what is behind a byte that cannot be");
        b.open(1);
        b.come(8, 0x6804430000000168L, 1);
        b.closedBy(2);
        b.outIs(Bench.frameOf(Bench.TEST_ANSWER));
        b.open(1);
        b.come(8, 0x0168044300000068L, 0);
        b.closedBy(2);
        b.count(2, 0);
        b.open(1);
        b.u(Bench.TEST);
        b.come(2, 0x6804, 0);
        b.come(8, 0x0900000068044300L, 0);
        b.closedBy(2);
        b.count(2, 6);
        b.open(1);
        b.come(8, 0x6804000000006804L, 0);
        b.closedBy(5);
        b.open(1);
        b.u(Bench.TEST);
    }

    /** However much of it came, and whichever way THE LINK CLOSED. */
    private static void halfAFrameGoesWithTheLink() {
        int[] frame = Bench.data(0, 0, 104, 1, 6, 0, 1, 0, 0, 0, 0, 170, 85);
        for (int came = 1; came < frame.length; came++) {
            for (int reason = 1; reason <= 4; reason += 3) {
                Bench b = Bench.inLink(came + " bytes of a FRAME, CLOSED by " + reason, 2);
                b.change(0, 1, 0, 1);
                b.bytes(0, java.util.Arrays.copyOf(frame, came));
                if (reason == 1) {
                    b.close(1);
                } else {
                    b.tick(150, 0);
                }
                b.closedBy(reason);
                b.open(1);
                b.u(Bench.START);
                b.skipOut();
                b.i(104, 1, 6, 0, 1, 0, 0, 0, 0, 170, 85);
                b.outIs(Bench.data(1, 1, 104, 1, 7, 0, 1, 0, 0, 0, 0, 170, 85));
            }
        }
    }
}
