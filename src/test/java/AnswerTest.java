import java.util.Arrays;

/** Part 2's ANSWERS: 60 that wait, and the 61st, by which THE LINK CLOSES. */
public final class AnswerTest {
    public static void main(String[] args) {
        sixtyAnswers();
        sixtyFirstAnswerThatIsTheSame();
        sixtyFirstAnswerWithAnAck();
        sixtyFirstAnswerOfInterrogation();
        sixtyFirstAnswerOfCommand();
        sixtyFirstAnswerOfCommandWithoutPoint();
        sixtyFirstAnswerOfSelection();
        sixtyFirstAnswerOfClock();
        sixtyFirstAnswerOfCounters();
        sixtyFirstAnswerOfCountersRead();
        answersGoWithTheLink();
        answersInOrder();
        Bench.finish();
    }

    /** A station whose one I FRAME is not acknowledged, and so many ANSWERS wait. */
    private static Bench waiting(String name, int answers) {
        Bench b = new Bench(name);
        b.set(1, 1, 12);
        b.point(0, 5, 1, false, 0);
        b.point(1, 6, 1, false, 1);
        b.point(4, 13, 2, false, 2);
        b.point(6, 12, 1, false, 3);
        b.command(0, 7, 0, false, 0);
        b.command(1, 9, 1, false, 1);
        b.command(2, 10, 2, false, 2);
        b.command(0, 11, -1, false, 3);
        b.command(0, 8, 0, true, 4);
        b.started();
        for (int i = 0; i <= answers; i++) {
            b.i(102, 1, 5, i, 1, 0, 5, 0, 0);
        }
        b.count(7, answers);
        b.count(0, 2);
        return b;
    }

    private static void sixtyAnswers() {
        Bench b = waiting("60 ANSWERS", 60);
        b.count(5, 61);
        b.frame(0, 102, 1, 5, 61, 1, 0, 5, 0, 0);
        b.closedBy(7);
        b.count(7, 0);
        b.count(5, 62);
        b.count(4, 0);
        b.count(3, 1);
    }

    /** Each fault is an ANSWER, too; what is PASSED BY is none. */
    private static void sixtyFirstAnswerThatIsTheSame() {
        int[][] rests = {{200, 1, 6, 9, 1, 0, 0, 0, 0}, {100, 1, 9, 9, 1, 0, 0, 0, 0, 20},
            {100, 1, 6, 9, 9, 0, 0, 0, 0, 20}, {100, 1, 6, 9, 1, 0, 1, 0, 0, 20}, {100, 1, 6, 9, 1, 0, 0, 0, 0, 19},
            {100, 1, 8, 9, 1, 0, 0, 0, 0, 20}, {104, 1, 6, 9, 1, 0, 0, 0, 0, 170, 85},
            {45, 1, 8, 9, 1, 0, 7, 0, 0, 1}, {45, 1, 6, 9, 1, 0, 7, 0, 0, 2}};
        for (int[] rest : rests) {
            Bench b = waiting("the 60th by " + Arrays.toString(rest), 59);
            b.i(rest);
            b.count(7, 60);
            b.i(100, 2, 6, 9, 1, 0, 0, 0, 0, 20);
            b.count(7, 60);
            b.count(10, 1);
            b.frame(0, rest);
            b.forgotBy(7);
        }
    }

    /** ANSWERS go behind the FRAME: its ACK makes no room for its own. */
    private static void sixtyFirstAnswerWithAnAck() {
        Bench b = waiting("the 61st with an ACK", 60);
        b.bytes(0, Bench.data(61, 1, 102, 1, 5, 0, 1, 0, 5, 0, 0));
        b.forgotBy(7);
        Bench c = waiting("an ACK, then the 60th again", 60);
        c.s(1);
        c.count(7, 59);
        c.i(102, 1, 5, 0, 1, 0, 5, 0, 0);
        c.count(7, 60);
    }

    private static void sixtyFirstAnswerOfInterrogation() {
        Bench b = waiting("an interrogation that fills", 56);
        b.i(100, 1, 6, 9, 1, 0, 0, 0, 0, 21);
        b.count(7, 60);
        Bench c = waiting("an interrogation that overflows", 57);
        c.frame(0, 100, 1, 6, 9, 1, 0, 0, 0, 0, 21);
        c.closedBy(7);
        c.count(7, 0);
        c.open(1);
        c.u(Bench.START);
        c.outIs(Bench.frameOf(Bench.START_ANSWER));
        c.i(104, 1, 6, 3, 1, 0, 0, 0, 0, 170, 85);
        c.outIs(Bench.data(0, 1, 104, 1, 7, 3, 1, 0, 0, 0, 0, 170, 85));
    }

    /** The 7 with no room: nothing is carried out. A later one: what is told ahead of it stands. */
    private static void sixtyFirstAnswerOfCommand() {
        int[][] orders = {{0, 45, 7, 1}, {1, 46, 9, 2}, {2, 49, 10, 44, 1, 0}};
        int[] values = {1, 2, 300};
        for (int[] order : orders) {
            int[] head = {order[1], 1, 6, 9, 1, 0, order[2], 0, 0};
            int[] rest = Bench.join(head, Arrays.copyOfRange(order, 3, order.length));
            for (int room = 0; room <= 3; room++) {
                Bench b = waiting("TYPE " + order[1] + " with room for " + room, 60 - room);
                b.frame(room == 3 ? 1 : 0, rest);
                b.count(0, room == 3 ? 2 : 0);
                b.count(1, room == 3 ? 0 : 7);
                b.count(7, room == 3 ? 60 : 0);
                b.ordered(order[0], 2, room == 0 ? 0 : 1);
                b.told(order[0], 4, room == 0 ? 0 : values[order[0]]);
            }
        }
    }

    private static void sixtyFirstAnswerOfCommandWithoutPoint() {
        for (int room = 0; room <= 1; room++) {
            Bench b = waiting("a COMMAND of no POINT with room for " + room, 60 - room);
            b.frame(0, 45, 1, 6, 9, 1, 0, 11, 0, 0, 1);
            b.closedBy(7);
            b.ordered(3, 2, room);
        }
    }

    private static void sixtyFirstAnswerOfSelection() {
        Bench b = waiting("a SELECTION with no room", 60);
        b.frame(0, 45, 1, 6, 9, 1, 0, 8, 0, 0, 129);
        b.closedBy(7);
        b.ordered(4, 0, 0);
        b.ordered(4, 1, 0);
        Bench c = waiting("a SELECTED COMMAND with no room", 59);
        c.i(45, 1, 6, 9, 1, 0, 8, 0, 0, 129);
        c.ordered(4, 0, 1);
        c.frame(0, 45, 1, 6, 9, 1, 0, 8, 0, 0, 1);
        c.closedBy(7);
        c.ordered(4, 0, 0);
        c.ordered(4, 2, 0);
        c.told(0, 4, 0);
    }

    private static void sixtyFirstAnswerOfClock() {
        int[] order = {103, 1, 6, 9, 1, 0, 0, 0, 0, 100, 0, 5, 6, 7, 8, 9};
        Bench b = waiting("a TIME with no room", 60);
        b.frame(0, order);
        b.closedBy(7);
        b.clockIs(0, 0, 0, 1, 1, 0, 0);
        Bench c = waiting("a TIME with room for one", 59);
        c.i(order);
        c.count(7, 60);
        c.clockIs(100, 5, 6, 7, 8, 9, 1);
    }

    private static void sixtyFirstAnswerOfCounters() {
        for (int asked = 1; asked <= 3; asked++) {
            for (int room = 0; room <= 2; room++) {
                Bench b = waiting("COUNTERS by " + asked + " with room for " + room, 60 - room);
                b.change(3, 77, 0, 1);
                b.frame(room == 2 ? 1 : 0, 101, 1, 6, 9, 1, 0, 0, 0, 0, asked << 6 | 5);
                b.count(0, room == 2 ? 2 : 0);
                b.count(1, room == 2 ? 0 : 7);
                b.count(11, room == 0 || asked == 3 ? 0 : 1);
                b.told(3, 6, room == 0 || asked == 3 ? 0 : 77);
                b.told(3, 4, room == 0 || asked == 1 ? 77 : 0);
            }
        }
    }

    private static void sixtyFirstAnswerOfCountersRead() {
        for (int room = 0; room <= 3; room++) {
            Bench b = waiting("COUNTERS read with room for " + room, 60 - room);
            b.frame(room == 3 ? 1 : 0, 101, 1, 6, 9, 1, 0, 0, 0, 0, 5);
            b.count(0, room == 3 ? 2 : 0);
            b.count(1, room == 3 ? 0 : 7);
            b.count(7, room == 3 ? 60 : 0);
        }
    }

    private static void answersGoWithTheLink() {
        Bench b = waiting("ANSWERS go", 3);
        b.close(1);
        b.count(7, 0);
        b.open(1);
        b.u(Bench.START);
        b.outIs(Bench.frameOf(Bench.START_ANSWER));
    }

    private static void answersInOrder() {
        Bench b = waiting("ANSWERS in their order", 50);
        b.skipOut();
        for (int ack = 1; ack <= 20; ack++) {
            b.s(ack);
        }
        for (int i = 51; i < 80; i++) {
            b.i(102, 1, 5, i, 1, 0, 5, 0, 0);
        }
        b.count(7, 59);
        b.skipOut();
        for (int ack = 21; ack <= 77; ack++) {
            b.s(ack);
        }
        b.take(b.station.count(2) - 48, 48);
        b.outIs(Bench.data(75, 80, 1, 1, 5, 75, 1, 0, 5, 0, 0, 0), Bench.data(76, 80, 1, 1, 5, 76, 1, 0, 5, 0, 0, 0),
            Bench.data(77, 80, 1, 1, 5, 77, 1, 0, 5, 0, 0, 0));
        b.count(7, 2);
    }
}
