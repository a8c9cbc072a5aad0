/** Promise 13, and COMMANDS: selected, carried out once, ended, tried. */
public final class CommandTest {
    private static final int DENIED = 64, T = 128, SELECT = 128;

    public static void main(String[] args) {
        directSingle();
        directDouble();
        directSet();
        withoutPoint();
        statesThatAreNone();
        selectThenCarryOut();
        selectDenied();
        otherBytesEndTheSelection();
        otherOriginatorEndsTheSelection();
        setBytesAreAllCompared();
        badStateKeepsTheSelection();
        notSelected();
        otherCommandKeepsTheSelection();
        deactivate();
        closingEndsTheSelection();
        selectionWithT();
        carryOutWithT();
        deactivateWithT();
        selectAnewBehindTheEnd();
        oneAtMostIsSelected();
        everyByteOfSingle();
        everyByteOfDouble();
        everyByteOfSet();
        everyByteSelected();
        everyOriginator();
        valuesOfSet();
        selectionThatIsOverAsItIsCarriedOut();
        howOftenItWasCarriedOut();
        Bench.finish();
    }

    private static Bench station(String name) {
        Bench b = new Bench(name);
        b.point(0, 10, 0, true, 0);
        b.point(1, 11, 0, true, 1);
        b.point(4, 12, 0, true, 2);
        b.command(0, 20, 0, false, 0);
        b.command(1, 21, 1, false, 1);
        b.command(2, 22, 2, false, 2);
        b.command(0, 30, 0, true, 3);
        b.command(1, 31, 1, true, 4);
        b.command(2, 32, 2, true, 5);
        b.command(0, 33, -1, false, 6);
        b.started();
        return b;
    }

    private static int[] rest(int type, int cause, int originator, int address, int... data) {
        return Bench.join(new int[] {type, 1, cause, originator, 1, 0, address, 0, 0}, data);
    }

    /** Sends an order and sees that these rests are what is sent for it. */
    private static void order(Bench b, int[] rest, int[]... answers) {
        int sent = b.station.count(3);
        int came = b.station.count(5) + 1;
        b.i(rest);
        int[] all = {};
        for (int i = 0; i < answers.length; i++) {
            all = Bench.join(all, Bench.data(sent + i, came, answers[i]));
        }
        b.outIs(all);
        b.s(sent + answers.length);
    }

    private static int[] with(int[] rest, int cause) {
        int[] answer = rest.clone();
        answer[2] = cause;
        return answer;
    }

    private static void denied(Bench b, int... rest) {
        order(b, rest, with(rest, 7 | DENIED | rest[2] & T));
    }

    private static void selected(Bench b, int... rest) {
        order(b, rest, with(rest, 7));
    }

    private static void carriedOut(Bench b, int[] rest, int[] object) {
        order(b, rest, with(rest, 7), object, with(rest, 10));
    }

    private static void directSingle() {
        Bench b = station("45");
        b.change(0, 0, 16, 1);
        b.s(1);
        b.skipOut();
        carriedOut(b, rest(45, 6, 77, 20, 1), rest(1, 11, 77, 10, 129));
        b.told(0, 4, 1);
        b.told(0, 5, 16);
        b.ordered(0, 2, 1);
        carriedOut(b, rest(45, 6, 0, 20, 1 | 4 | 64), rest(1, 11, 0, 10, 129));
        carriedOut(b, rest(45, 6, 0, 20, 0), rest(1, 11, 0, 10, 128));
        b.told(0, 4, 0);
        b.ordered(0, 2, 3);
        b.ordered(0, 0, 0);
        b.ordered(3, 2, 0);
        b.count(8, 0);
    }

    private static void directDouble() {
        Bench b = station("46");
        carriedOut(b, rest(46, 6, 77, 21, 2), rest(3, 11, 77, 11, 2));
        b.told(1, 4, 2);
        carriedOut(b, rest(46, 6, 77, 21, 1 | 124), rest(3, 11, 77, 11, 1));
        b.told(1, 4, 1);
        b.ordered(1, 2, 2);
    }

    private static void directSet() {
        Bench b = station("49");
        carriedOut(b, rest(49, 6, 77, 22, 0x34, 0x12, 0), rest(11, 11, 77, 12, 0x34, 0x12, 0));
        b.told(2, 4, 0x1234);
        carriedOut(b, rest(49, 6, 77, 22, 0xFF, 0xFF, 127), rest(11, 11, 77, 12, 0xFF, 0xFF, 0));
        b.told(2, 4, -1);
        carriedOut(b, rest(49, 6, 77, 22, 0, 128, 0), rest(11, 11, 77, 12, 0, 128, 0));
        b.told(2, 4, -32768);
        b.ordered(2, 2, 3);
    }

    private static void withoutPoint() {
        Bench b = station("a COMMAND without a POINT");
        int[] rest = rest(45, 6, 1, 33, 1);
        order(b, rest, with(rest, 7), with(rest, 10));
        b.ordered(6, 2, 1);
        b.told(0, 4, 0);
    }

    private static void statesThatAreNone() {
        Bench b = station("states that are none");
        denied(b, rest(45, 6, 1, 20, 2));
        denied(b, rest(45, 6, 1, 20, 3));
        denied(b, rest(45, 6, 1, 30, 3 | SELECT));
        denied(b, rest(46, 6, 1, 21, 0));
        denied(b, rest(46, 6, 1, 21, 3));
        denied(b, rest(46, 6, 1, 31, 4 | SELECT));
        denied(b, rest(46, 6 | T, 1, 31, 3 | SELECT));
        b.ordered(0, 2, 0);
        b.ordered(3, 0, 0);
        b.ordered(4, 0, 0);
    }

    private static void selectThenCarryOut() {
        Bench b = station("SELECT, then carried out");
        selected(b, rest(45, 6, 5, 30, 1 | 4 | SELECT));
        b.ordered(3, 0, 1);
        b.ordered(3, 1, 300);
        b.ordered(0, 0, 0);
        b.told(0, 4, 0);
        carriedOut(b, rest(45, 6, 5, 30, 1 | 4), rest(1, 11, 5, 10, 1));
        b.ordered(3, 0, 0);
        b.ordered(3, 1, 0);
        b.ordered(3, 2, 1);
        denied(b, rest(45, 6, 5, 30, 1 | 4));
        b.ordered(3, 2, 1);
        Bench c = station("SELECT a 46 and a 49");
        selected(c, rest(46, 6, 5, 31, 2 | SELECT));
        carriedOut(c, rest(46, 6, 5, 31, 2), rest(3, 11, 5, 11, 2));
        selected(c, rest(49, 6, 5, 32, 1, 2, 3 | SELECT));
        c.tick(149, 2);
        carriedOut(c, rest(49, 6, 5, 32, 1, 2, 3), rest(11, 11, 5, 12, 1, 2, 0));
        c.told(2, 4, 513);
    }

    private static void selectDenied() {
        Bench b = station("SELECT denied");
        denied(b, rest(45, 6, 5, 20, 1 | SELECT));
        denied(b, rest(49, 6, 5, 22, 1, 2, SELECT));
        b.ordered(0, 0, 0);
        selected(b, rest(45, 6, 5, 30, 1 | SELECT));
        denied(b, rest(45, 6, 5, 30, 1 | SELECT));
        denied(b, rest(46, 6, 5, 31, 1 | SELECT));
        b.ordered(3, 0, 1);
        b.ordered(4, 0, 0);
        b.tick(5, 2);
        denied(b, rest(45, 6, 5, 30, 1 | SELECT));
        b.ordered(3, 1, 295);
    }

    private static void otherBytesEndTheSelection() {
        Bench b = station("other bytes than SELECTED");
        selected(b, rest(45, 6, 5, 30, 1 | SELECT));
        denied(b, rest(45, 6, 5, 30, 0));
        b.ordered(3, 0, 0);
        b.ordered(3, 2, 0);
        b.told(0, 4, 0);
        selected(b, rest(45, 6, 5, 30, 1 | SELECT));
        denied(b, rest(45, 6, 5, 30, 1 | 4));
        b.ordered(3, 0, 0);
    }

    private static void otherOriginatorEndsTheSelection() {
        Bench b = station("another ORIGINATOR than SELECTED");
        selected(b, rest(45, 6, 5, 30, 1 | SELECT));
        denied(b, rest(45, 6, 6, 30, 1));
        b.ordered(3, 0, 0);
        b.ordered(3, 2, 0);
    }

    private static void setBytesAreAllCompared() {
        int[][] other = {{2, 2, 3}, {1, 3, 3}, {1, 2, 4}, {1, 2, 67}};
        for (int[] data : other) {
            Bench b = station("other bytes of 49");
            selected(b, rest(49, 6, 5, 32, 1, 2, 3 | SELECT));
            denied(b, rest(49, 6, 5, 32, data));
            b.ordered(5, 0, 0);
            b.told(2, 4, 0);
        }
    }

    private static void badStateKeepsTheSelection() {
        Bench b = station("a state that is none, when SELECTED");
        selected(b, rest(45, 6, 5, 30, 1 | SELECT));
        denied(b, rest(45, 6, 5, 30, 3));
        b.ordered(3, 0, 1);
        carriedOut(b, rest(45, 6, 5, 30, 1), rest(1, 11, 5, 10, 1));
    }

    private static void notSelected() {
        Bench b = station("not SELECTED");
        denied(b, rest(45, 6, 5, 30, 1));
        denied(b, rest(46, 6, 5, 31, 1));
        denied(b, rest(49, 6, 5, 32, 1, 0, 0));
        b.ordered(3, 2, 0);
        b.ordered(4, 2, 0);
        b.ordered(5, 2, 0);
    }

    private static void otherCommandKeepsTheSelection() {
        Bench b = station("another COMMAND, when one is SELECTED");
        selected(b, rest(45, 6, 5, 30, 1 | SELECT));
        denied(b, rest(46, 6, 5, 31, 1));
        b.ordered(3, 0, 1);
        carriedOut(b, rest(45, 6, 5, 20, 1), rest(1, 11, 5, 10, 1));
        b.ordered(3, 0, 1);
        int[] end = rest(46, 8, 5, 31, 1);
        order(b, end, with(end, 9 | DENIED));
        b.ordered(3, 0, 1);
    }

    private static void deactivate() {
        Bench b = station("CAUSE 8");
        int[] end = rest(45, 8, 9, 30, 3);
        order(b, end, with(end, 9 | DENIED));
        selected(b, rest(45, 6, 5, 30, 1 | SELECT));
        order(b, end, with(end, 9));
        b.ordered(3, 0, 0);
        b.ordered(3, 2, 0);
        denied(b, rest(45, 6, 5, 30, 1));
        int[] direct = rest(45, 8, 9, 20, 0);
        order(b, direct, with(direct, 9 | DENIED));
    }

    private static void closingEndsTheSelection() {
        Bench b = station("CLOSING");
        selected(b, rest(45, 6, 5, 30, 1 | SELECT));
        b.close(1);
        b.ordered(3, 0, 0);
        b.ordered(3, 1, 0);
        b.started();
        denied(b, rest(45, 6, 5, 30, 1));
    }

    private static void selectionWithT() {
        Bench b = station("SELECT with T");
        int[] trial = rest(45, 6 | T, 5, 30, 1 | SELECT);
        order(b, trial, with(trial, 7 | T));
        b.ordered(3, 0, 0);
        denied(b, rest(45, 6 | T, 5, 20, 1 | SELECT));
        selected(b, rest(45, 6, 5, 30, 1 | SELECT));
        denied(b, trial);
        b.ordered(3, 0, 1);
    }

    private static void carryOutWithT() {
        Bench b = station("carried out with T");
        int[] direct = rest(45, 6 | T, 5, 20, 1);
        order(b, direct, with(direct, 7 | T), with(direct, 10 | T));
        b.ordered(0, 2, 0);
        b.told(0, 4, 0);
        int[] trial = rest(45, 6 | T, 5, 30, 1);
        denied(b, trial);
        selected(b, rest(45, 6, 5, 30, 1 | SELECT));
        denied(b, rest(45, 6 | T, 5, 30, 0));
        b.ordered(3, 0, 1);
        order(b, trial, with(trial, 7 | T), with(trial, 10 | T));
        b.ordered(3, 0, 1);
        b.ordered(3, 2, 0);
        b.told(0, 4, 0);
        carriedOut(b, rest(45, 6, 5, 30, 1), rest(1, 11, 5, 10, 1));
    }

    private static void deactivateWithT() {
        Bench b = station("CAUSE 8 with T");
        int[] end = rest(45, 8 | T, 9, 30, 0);
        order(b, end, with(end, 9 | DENIED | T));
        selected(b, rest(45, 6, 5, 30, 1 | SELECT));
        order(b, end, with(end, 9 | T));
        b.ordered(3, 0, 1);
    }

    private static void selectAnewBehindTheEnd() {
        Bench b = new Bench("SELECT anew when S is over");
        b.set(6, 2, 300);
        b.command(0, 30, -1, true, 0);
        b.command(0, 31, -1, true, 1);
        b.started();
        selected(b, rest(45, 6, 5, 30, 1 | SELECT));
        b.tick(2, 2);
        denied(b, rest(45, 6, 5, 30, 1));
        selected(b, rest(45, 6, 5, 31, 1 | SELECT));
        b.ordered(1, 1, 2);
        b.tick(1, 2);
        b.ordered(1, 1, 1);
        b.ordered(0, 1, 0);
    }

    /** Whichever was first, none is SELECTED beside it, and it stays so for the TICKS that it had. */
    private static void oneAtMostIsSelected() {
        int[][] orders = {rest(45, 6, 5, 30, 1 | SELECT), rest(46, 6, 5, 31, 2 | SELECT),
            rest(49, 6, 5, 32, 1, 2, SELECT)};
        for (int first = 0; first < 3; first++) {
            for (int second = 0; second < 3; second++) {
                Bench b = station(first + " is SELECTED, then " + second);
                selected(b, orders[first]);
                b.tick(7, 2);
                denied(b, orders[second]);
                for (int command = 0; command < 3; command++) {
                    b.ordered(3 + command, 0, command == first ? 1 : 0);
                    b.ordered(3 + command, 1, command == first ? 293 : 0);
                }
            }
        }
    }

    /** 1 is the state, 2 must be 0, 128 SELECTS, which this one must not be; the others are of no matter. */
    private static void everyByteOfSingle() {
        for (int data = 0; data < 256; data++) {
            Bench b = station("45 by " + data);
            int[] rest = rest(45, 6, 1, 20, data);
            boolean fits = (data & 2) == 0 && data < 128;
            if (fits) {
                carriedOut(b, rest, rest(1, 11, 1, 10, data & 1));
            } else {
                denied(b, rest);
            }
            b.ordered(0, 2, fits ? 1 : 0);
            b.told(0, 4, fits ? data & 1 : 0);
        }
    }

    private static void everyByteOfDouble() {
        for (int data = 0; data < 256; data++) {
            Bench b = station("46 by " + data);
            int[] rest = rest(46, 6, 1, 21, data);
            int state = data & 3;
            boolean fits = (state == 1 || state == 2) && data < 128;
            if (fits) {
                carriedOut(b, rest, rest(3, 11, 1, 11, state));
            } else {
                denied(b, rest);
            }
            b.ordered(1, 2, fits ? 1 : 0);
            b.told(1, 4, fits ? state : 0);
        }
    }

    private static void everyByteOfSet() {
        for (int last = 0; last < 256; last++) {
            Bench b = station("49 by " + last);
            int[] rest = rest(49, 6, 1, 22, 2, 3, last);
            if (last < 128) {
                carriedOut(b, rest, rest(11, 11, 1, 12, 2, 3, 0));
            } else {
                denied(b, rest);
            }
            b.ordered(2, 2, last < 128 ? 1 : 0);
            b.told(2, 4, last < 128 ? 770 : 0);
        }
    }

    /** SELECTED by every byte that can be, then carried out by that byte alone, but for 128. */
    private static void everyByteSelected() {
        for (int data = 0; data < 128; data++) {
            for (int bit = 0; bit < 128; bit = bit == 0 ? 1 : bit * 2) {
                int other = data ^ bit;
                selectedAndOrdered(3, 45, 30, (data & 2) == 0, (other & 2) == 0, data, other);
                selectedAndOrdered(4, 46, 31, isDouble(data), isDouble(other), data, other);
            }
        }
    }

    private static boolean isDouble(int data) {
        return (data & 3) == 1 || (data & 3) == 2;
    }

    private static void selectedAndOrdered(int command, int type, int address, boolean fits, boolean otherFits,
            int data, int other) {
        Bench b = station("SELECTED by " + data + ", ordered by " + other);
        if (!fits) {
            denied(b, rest(type, 6, 5, address, data | SELECT));
            b.ordered(command, 0, 0);
            return;
        }
        selected(b, rest(type, 6, 5, address, data | SELECT));
        b.ordered(command, 0, 1);
        if (data != other) {
            denied(b, rest(type, 6, 5, address, other));
            b.ordered(command, 0, otherFits ? 0 : 1);
        } else {
            b.i(rest(type, 6, 5, address, data));
            b.count(3, 4);
            b.ordered(command, 0, 0);
        }
        b.ordered(command, 2, data == other ? 1 : 0);
    }

    private static void everyOriginator() {
        for (int originator = 0; originator < 256; originator++) {
            Bench b = station("ORIGINATOR " + originator);
            selected(b, rest(45, 6, originator, 30, 1 | SELECT));
            carriedOut(b, rest(45, 6, originator, 30, 1), rest(1, 11, originator, 10, 1));
            for (int bit = 1; bit < 256; bit *= 2) {
                Bench c = station("ORIGINATOR other than " + originator);
                selected(c, rest(45, 6, originator, 30, 1 | SELECT));
                denied(c, rest(45, 6, originator ^ bit, 30, 1));
                c.ordered(3, 0, 0);
            }
        }
    }

    private static void valuesOfSet() {
        for (int value : new int[] {-32768, -32767, -1, 0, 1, 255, 256, 32767}) {
            Bench b = station("49 sets " + value);
            int low = value & 255;
            int high = value >> 8 & 255;
            carriedOut(b, rest(49, 6, 1, 22, low, high, 0), rest(11, 11, 1, 12, low, high, 0));
            b.told(2, 4, value);
        }
    }

    /** In the last TICK of S it still is SELECTED; a TICK later it is denied. */
    private static void selectionThatIsOverAsItIsCarriedOut() {
        for (int ticks = 4; ticks <= 5; ticks++) {
            Bench b = new Bench("carried out behind " + ticks + " of 5 TICKS");
            b.set(6, 5, 300);
            b.command(0, 30, -1, true, 0);
            b.started();
            selected(b, rest(45, 6, 5, 30, 1 | SELECT));
            b.tick(ticks, 2);
            int[] rest = rest(45, 6, 5, 30, 1);
            if (ticks == 4) {
                order(b, rest, with(rest, 7), with(rest, 10));
            } else {
                denied(b, rest);
            }
            b.ordered(0, 2, ticks == 4 ? 1 : 0);
            b.ordered(0, 0, 0);
        }
    }

    private static void howOftenItWasCarriedOut() {
        Bench b = station("how often");
        for (int times = 1; times <= 9; times++) {
            b.i(rest(45, 6, 5, 20, times % 2));
            b.s(3 * times);
            b.ordered(0, 2, times);
            b.ordered(3, 2, 0);
        }
        b.close(1);
        b.ordered(0, 2, 9);
        b.open(1);
        b.ordered(0, 2, 9);
    }
}
