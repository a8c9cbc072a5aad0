/** Promise 13, and COMMANDS: selected, carried out once, ended, tried. */
public final class CommandTest {
    private static final int DENIED = 64, T = 128, SELECT = 128;

    public static void main(String[] args) {
        directSingle();
        directDouble();
        directSet();
        withoutPoint();
        statesThatAreNone();
        selectThenCarryOut();
        selectDenied();
        otherBytesEndTheSelection();
        otherOriginatorEndsTheSelection();
        setBytesAreAllCompared();
        badStateKeepsTheSelection();
        notSelected();
        otherCommandKeepsTheSelection();
        deactivate();
        closingEndsTheSelection();
        selectionWithT();
        carryOutWithT();
        deactivateWithT();
        selectAnewBehindTheEnd();
        Bench.finish();
    }

    private static Bench station(String name) {
        Bench b = new Bench(name);
        b.point(0, 10, 0, true, 0);
        b.point(1, 11, 0, true, 1);
        b.point(4, 12, 0, true, 2);
        b.command(0, 20, 0, false, 0);
        b.command(1, 21, 1, false, 1);
        b.command(2, 22, 2, false, 2);
        b.command(0, 30, 0, true, 3);
        b.command(1, 31, 1, true, 4);
        b.command(2, 32, 2, true, 5);
        b.command(0, 33, -1, false, 6);
        b.started();
        return b;
    }

    private static int[] rest(int type, int cause, int originator, int address, int... data) {
        return Bench.join(new int[] {type, 1, cause, originator, 1, 0, address, 0, 0}, data);
    }

    /** Sends an order and sees that these rests are what is sent for it. */
    private static void order(Bench b, int[] rest, int[]... answers) {
        int sent = b.station.count(3);
        int came = b.station.count(5) + 1;
        b.i(rest);
        int[] all = {};
        for (int i = 0; i < answers.length; i++) {
            all = Bench.join(all, Bench.data(sent + i, came, answers[i]));
        }
        b.outIs(all);
        b.s(sent + answers.length);
    }

    private static int[] with(int[] rest, int cause) {
        int[] answer = rest.clone();
        answer[2] = cause;
        return answer;
    }

    private static void denied(Bench b, int... rest) {
        order(b, rest, with(rest, 7 | DENIED | rest[2] & T));
    }

    private static void selected(Bench b, int... rest) {
        order(b, rest, with(rest, 7));
    }

    private static void carriedOut(Bench b, int[] rest, int[] object) {
        order(b, rest, with(rest, 7), object, with(rest, 10));
    }

    private static void directSingle() {
        Bench b = station("45");
        b.change(0, 0, 16, 1);
        b.s(1);
        b.skipOut();
        carriedOut(b, rest(45, 6, 77, 20, 1), rest(1, 11, 77, 10, 129));
        b.told(0, 4, 1);
        b.told(0, 5, 16);
        b.ordered(0, 2, 1);
        carriedOut(b, rest(45, 6, 0, 20, 1 | 4 | 64), rest(1, 11, 0, 10, 129));
        carriedOut(b, rest(45, 6, 0, 20, 0), rest(1, 11, 0, 10, 128));
        b.told(0, 4, 0);
        b.ordered(0, 2, 3);
        b.ordered(0, 0, 0);
        b.ordered(3, 2, 0);
        b.count(8, 0);
    }

    private static void directDouble() {
        Bench b = station("46");
        carriedOut(b, rest(46, 6, 77, 21, 2), rest(3, 11, 77, 11, 2));
        b.told(1, 4, 2);
        carriedOut(b, rest(46, 6, 77, 21, 1 | 124), rest(3, 11, 77, 11, 1));
        b.told(1, 4, 1);
        b.ordered(1, 2, 2);
    }

    private static void directSet() {
        Bench b = station("49");
        carriedOut(b, rest(49, 6, 77, 22, 0x34, 0x12, 0), rest(11, 11, 77, 12, 0x34, 0x12, 0));
        b.told(2, 4, 0x1234);
        carriedOut(b, rest(49, 6, 77, 22, 0xFF, 0xFF, 127), rest(11, 11, 77, 12, 0xFF, 0xFF, 0));
        b.told(2, 4, -1);
        carriedOut(b, rest(49, 6, 77, 22, 0, 128, 0), rest(11, 11, 77, 12, 0, 128, 0));
        b.told(2, 4, -32768);
        b.ordered(2, 2, 3);
    }

    private static void withoutPoint() {
        Bench b = station("a COMMAND without a POINT");
        int[] rest = rest(45, 6, 1, 33, 1);
        order(b, rest, with(rest, 7), with(rest, 10));
        b.ordered(6, 2, 1);
        b.told(0, 4, 0);
    }

    private static void statesThatAreNone() {
        Bench b = station("states that are none");
        denied(b, rest(45, 6, 1, 20, 2));
        denied(b, rest(45, 6, 1, 20, 3));
        denied(b, rest(45, 6, 1, 30, 3 | SELECT));
        denied(b, rest(46, 6, 1, 21, 0));
        denied(b, rest(46, 6, 1, 21, 3));
        denied(b, rest(46, 6, 1, 31, 4 | SELECT));
        denied(b, rest(46, 6 | T, 1, 31, 3 | SELECT));
        b.ordered(0, 2, 0);
        b.ordered(3, 0, 0);
        b.ordered(4, 0, 0);
    }

    private static void selectThenCarryOut() {
        Bench b = station("SELECT, then carried out");
        selected(b, rest(45, 6, 5, 30, 1 | 4 | SELECT));
        b.ordered(3, 0, 1);
        b.ordered(3, 1, 300);
        b.ordered(0, 0, 0);
        b.told(0, 4, 0);
        carriedOut(b, rest(45, 6, 5, 30, 1 | 4), rest(1, 11, 5, 10, 1));
        b.ordered(3, 0, 0);
        b.ordered(3, 1, 0);
        b.ordered(3, 2, 1);
        denied(b, rest(45, 6, 5, 30, 1 | 4));
        b.ordered(3, 2, 1);
        Bench c = station("SELECT a 46 and a 49");
        selected(c, rest(46, 6, 5, 31, 2 | SELECT));
        carriedOut(c, rest(46, 6, 5, 31, 2), rest(3, 11, 5, 11, 2));
        selected(c, rest(49, 6, 5, 32, 1, 2, 3 | SELECT));
        c.tick(149, 2);
        carriedOut(c, rest(49, 6, 5, 32, 1, 2, 3), rest(11, 11, 5, 12, 1, 2, 0));
        c.told(2, 4, 513);
    }

    private static void selectDenied() {
        Bench b = station("SELECT denied");
        denied(b, rest(45, 6, 5, 20, 1 | SELECT));
        denied(b, rest(49, 6, 5, 22, 1, 2, SELECT));
        b.ordered(0, 0, 0);
        selected(b, rest(45, 6, 5, 30, 1 | SELECT));
        denied(b, rest(45, 6, 5, 30, 1 | SELECT));
        denied(b, rest(46, 6, 5, 31, 1 | SELECT));
        b.ordered(3, 0, 1);
        b.ordered(4, 0, 0);
        b.tick(5, 2);
        denied(b, rest(45, 6, 5, 30, 1 | SELECT));
        b.ordered(3, 1, 295);
    }

    private static void otherBytesEndTheSelection() {
        Bench b = station("other bytes than SELECTED");
        selected(b, rest(45, 6, 5, 30, 1 | SELECT));
        denied(b, rest(45, 6, 5, 30, 0));
        b.ordered(3, 0, 0);
        b.ordered(3, 2, 0);
        b.told(0, 4, 0);
        selected(b, rest(45, 6, 5, 30, 1 | SELECT));
        denied(b, rest(45, 6, 5, 30, 1 | 4));
        b.ordered(3, 0, 0);
    }

    private static void otherOriginatorEndsTheSelection() {
        Bench b = station("another ORIGINATOR than SELECTED");
        selected(b, rest(45, 6, 5, 30, 1 | SELECT));
        denied(b, rest(45, 6, 6, 30, 1));
        b.ordered(3, 0, 0);
        b.ordered(3, 2, 0);
    }

    private static void setBytesAreAllCompared() {
        int[][] other = {{2, 2, 3}, {1, 3, 3}, {1, 2, 4}, {1, 2, 67}};
        for (int[] data : other) {
            Bench b = station("other bytes of 49");
            selected(b, rest(49, 6, 5, 32, 1, 2, 3 | SELECT));
            denied(b, rest(49, 6, 5, 32, data));
            b.ordered(5, 0, 0);
            b.told(2, 4, 0);
        }
    }

    private static void badStateKeepsTheSelection() {
        Bench b = station("a state that is none, when SELECTED");
        selected(b, rest(45, 6, 5, 30, 1 | SELECT));
        denied(b, rest(45, 6, 5, 30, 3));
        b.ordered(3, 0, 1);
        carriedOut(b, rest(45, 6, 5, 30, 1), rest(1, 11, 5, 10, 1));
    }

    private static void notSelected() {
        Bench b = station("not SELECTED");
        denied(b, rest(45, 6, 5, 30, 1));
        denied(b, rest(46, 6, 5, 31, 1));
        denied(b, rest(49, 6, 5, 32, 1, 0, 0));
        b.ordered(3, 2, 0);
        b.ordered(4, 2, 0);
        b.ordered(5, 2, 0);
    }

    private static void otherCommandKeepsTheSelection() {
        Bench b = station("another COMMAND, when one is SELECTED");
        selected(b, rest(45, 6, 5, 30, 1 | SELECT));
        denied(b, rest(46, 6, 5, 31, 1));
        b.ordered(3, 0, 1);
        carriedOut(b, rest(45, 6, 5, 20, 1), rest(1, 11, 5, 10, 1));
        b.ordered(3, 0, 1);
        int[] end = rest(46, 8, 5, 31, 1);
        order(b, end, with(end, 9 | DENIED));
        b.ordered(3, 0, 1);
    }

    private static void deactivate() {
        Bench b = station("CAUSE 8");
        int[] end = rest(45, 8, 9, 30, 3);
        order(b, end, with(end, 9 | DENIED));
        selected(b, rest(45, 6, 5, 30, 1 | SELECT));
        order(b, end, with(end, 9));
        b.ordered(3, 0, 0);
        b.ordered(3, 2, 0);
        denied(b, rest(45, 6, 5, 30, 1));
        int[] direct = rest(45, 8, 9, 20, 0);
        order(b, direct, with(direct, 9 | DENIED));
    }

    private static void closingEndsTheSelection() {
        Bench b = station("CLOSING");
        selected(b, rest(45, 6, 5, 30, 1 | SELECT));
        b.close(1);
        b.ordered(3, 0, 0);
        b.ordered(3, 1, 0);
        b.started();
        denied(b, rest(45, 6, 5, 30, 1));
    }

    private static void selectionWithT() {
        Bench b = station("SELECT with T");
        int[] trial = rest(45, 6 | T, 5, 30, 1 | SELECT);
        order(b, trial, with(trial, 7 | T));
        b.ordered(3, 0, 0);
        denied(b, rest(45, 6 | T, 5, 20, 1 | SELECT));
        selected(b, rest(45, 6, 5, 30, 1 | SELECT));
        denied(b, trial);
        b.ordered(3, 0, 1);
    }

    private static void carryOutWithT() {
        Bench b = station("carried out with T");
        int[] direct = rest(45, 6 | T, 5, 20, 1);
        order(b, direct, with(direct, 7 | T), with(direct, 10 | T));
        b.ordered(0, 2, 0);
        b.told(0, 4, 0);
        int[] trial = rest(45, 6 | T, 5, 30, 1);
        denied(b, trial);
        selected(b, rest(45, 6, 5, 30, 1 | SELECT));
        denied(b, rest(45, 6 | T, 5, 30, 0));
        b.ordered(3, 0, 1);
        order(b, trial, with(trial, 7 | T), with(trial, 10 | T));
        b.ordered(3, 0, 1);
        b.ordered(3, 2, 0);
        b.told(0, 4, 0);
        carriedOut(b, rest(45, 6, 5, 30, 1), rest(1, 11, 5, 10, 1));
    }

    private static void deactivateWithT() {
        Bench b = station("CAUSE 8 with T");
        int[] end = rest(45, 8 | T, 9, 30, 0);
        order(b, end, with(end, 9 | DENIED | T));
        selected(b, rest(45, 6, 5, 30, 1 | SELECT));
        order(b, end, with(end, 9 | T));
        b.ordered(3, 0, 1);
    }

    private static void selectAnewBehindTheEnd() {
        Bench b = new Bench("SELECT anew when S is over");
        b.set(6, 2, 300);
        b.command(0, 30, -1, true, 0);
        b.command(0, 31, -1, true, 1);
        b.started();
        selected(b, rest(45, 6, 5, 30, 1 | SELECT));
        b.tick(2, 2);
        denied(b, rest(45, 6, 5, 30, 1));
        selected(b, rest(45, 6, 5, 31, 1 | SELECT));
        b.ordered(1, 1, 2);
        b.tick(1, 2);
        b.ordered(1, 1, 1);
        b.ordered(0, 1, 0);
    }
}
