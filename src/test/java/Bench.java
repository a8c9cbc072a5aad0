import java.util.ArrayList;
import java.util.Arrays;
import java.util.List;

/** A station on the bench: speaks FRAMES to it, reads THE OUT, and notes every answer that is not due. */
final class Bench {
    static final int START = 7, START_ANSWER = 11, STOP = 19, STOP_ANSWER = 35, TEST = 67, TEST_ANSWER = 131;
    private static final int CALLS = 512;
    private static int checks = 0;
    private static int wrong = 0;

    final ControlledStation station = new ControlledStation();
    private final String name;
    private final int mostCalls;
    private int calls = 0;
    private int toSend = 0;
    private int ack = 0;

    Bench(String name) {
        this(name, CALLS);
    }

    private Bench(String name, int mostCalls) {
        this.name = name;
        this.mostCalls = mostCalls;
    }

    /** For what no run of 512 calls can reach; the document leaves the answers there free. */
    static Bench beyond512(String name) {
        return new Bench(name, Integer.MAX_VALUE);
    }

    /** Ends the test program: exit code 1 if an answer was wrong. */
    static void finish() {
        System.out.println(checks + " checks, " + wrong + " wrong");
        if (wrong != 0 || checks == 0) {
            System.exit(1);
        }
    }

    private void note(String what, Object got, Object want) {
        checks++;
        if (!got.equals(want)) {
            wrong++;
            System.out.println(name + ": " + what + " answered " + got + ", due is " + want);
        }
    }

    /** A station with POINT 0 (SINGLE, ADDRESS 5) whose LINK is so, and nothing in THE OUT. */
    static Bench inLink(String name, int link) {
        Bench b = new Bench(name + ", THE LINK " + link);
        b.point(0, 5, 0, false, 0);
        if (link == 1) {
            b.open(1);
        } else if (link != 0) {
            b.started();
        }
        if (link == 3) {
            b.change(0, 1, 0, 1);
            b.u(STOP);
        }
        b.skipOut();
        b.count(0, link);
        return b;
    }

    /** STARTED, with a SINGLE POINT 5 and a COUNTER 6 of GROUP 1, and a COMMAND of each SORT: 7, 8 and 9. */
    static Bench withCommands(String name) {
        Bench b = new Bench(name);
        b.point(0, 5, 1, false, 0);
        b.point(6, 6, 1, false, 1);
        b.command(0, 7, 0, false, 0);
        b.command(1, 8, -1, false, 1);
        b.command(2, 9, -1, false, 2);
        b.started();
        return b;
    }

    void due(String what, boolean holds) {
        note(what, holds, true);
    }

    /** Makes a call count, so that no test leans on answers that are free. */
    private int used(int answer) {
        calls++;
        if (calls > mostCalls) {
            note("calls on one object", calls, mostCalls);
        }
        return answer;
    }

    void set(int what, int v, int want) {
        note("set(" + what + ", " + v + ")", used(station.set(what, v)), want);
    }

    void point(int sort, int address, int group, boolean timed, int want) {
        String call = "point(" + sort + ", " + address + ", " + group + ", " + timed + ")";
        note(call, used(station.point(sort, address, group, timed)), want);
    }

    void command(int sort, int address, int point, boolean selected, int want) {
        String call = "command(" + sort + ", " + address + ", " + point + ", " + selected + ")";
        note(call, used(station.command(sort, address, point, selected)), want);
    }

    void change(int point, int value, int quality, int want) {
        String call = "change(" + point + ", " + value + ", " + quality + ")";
        note(call, used(station.change(point, value, quality)), want);
    }

    void open(int want) {
        note("open()", used(station.open()), want);
        toSend = 0;
        ack = 0;
    }

    void close(int want) {
        note("close()", used(station.close()), want);
    }

    void come(int n, long v, int want) {
        note("come(" + n + ", " + v + ")", used(station.come(n, v)), want);
    }

    void tick(int n, int want) {
        note("tick(" + n + ")", used(station.tick(n)), want);
    }

    void out(int i, int want) {
        note("out(" + i + ")", used(station.out(i)), want);
    }

    void take(int n, int want) {
        note("take(" + n + ")", used(station.take(n)), want);
    }

    void told(int point, int what, int want) {
        note("told(" + point + ", " + what + ")", used(station.told(point, what)), want);
    }

    void ordered(int command, int what, int want) {
        note("ordered(" + command + ", " + what + ")", used(station.ordered(command, what)), want);
    }

    void clock(int what, int want) {
        note("clock(" + what + ")", used(station.clock(what)), want);
    }

    void clockIs(int... parts) {
        for (int i = 0; i < parts.length; i++) {
            clock(i, parts[i]);
        }
    }

    void count(int what, int want) {
        note("count(" + what + ")", read(what), want);
    }

    int read(int what) {
        return used(station.count(what));
    }

    /** THE LINK CLOSED, by this reason. */
    void closedBy(int reason) {
        count(0, 0);
        count(1, reason);
    }

    /** It is CLOSED by this reason, and all that goes with it went. */
    void forgotBy(int reason) {
        closedBy(reason);
        for (int what : new int[] {4, 6, 7, 9}) {
            count(what, 0);
        }
    }

    /** Bytes, eight a call: how many FRAMES must have been taken by them. */
    void bytes(int want, int... bytes) {
        int taken = 0;
        for (int from = 0; from < bytes.length; from += 8) {
            int n = Math.min(8, bytes.length - from);
            long v = 0;
            for (int i = 0; i < n; i++) {
                v = v << 8 | bytes[from + i];
            }
            int answer = used(station.come(n, v));
            if (answer < 0) {
                break;
            }
            taken += answer;
        }
        note("bytes " + Arrays.toString(bytes), taken, want);
    }

    void u(int control) {
        bytes(1, 104, 4, control, 0, 0, 0);
    }

    /** Acknowledges so many I FRAMES in all since THE LINK was opened, and says so by S. */
    void s(int newAck) {
        ack = newAck;
        bytes(1, 104, 4, 1, 0, ack % 128 * 2, ack / 128);
    }

    /** An I FRAME with the next NUMBER, and the ACK that was told last. */
    void i(int... rest) {
        frame(1, rest);
    }

    void frame(int want, int... rest) {
        bytes(want, data(toSend, ack, rest));
        toSend++;
    }

    static int[] data(int number, int ack, int... rest) {
        int[] head = {104, rest.length + 4, number % 128 * 2, number / 128, ack % 128 * 2, ack / 128};
        return join(head, rest);
    }

    static int[] join(int[]... parts) {
        return Arrays.stream(parts).flatMapToInt(Arrays::stream).toArray();
    }

    /** Sends a rest, and sees that the one ANSWER is the same but for its CAUSE. */
    void same(int cause, int... rest) {
        int sent = read(3);
        i(rest);
        int[] answer = rest.clone();
        answer[2] = cause;
        outIs(data(sent, toSend, answer));
        s(sent + 1);
    }

    void passedBy(int... rest) {
        int before = read(10);
        int sent = read(3);
        i(rest);
        count(10, before + 1);
        count(7, 0);
        count(3, sent);
    }

    void started() {
        open(1);
        u(START);
        outIs(Bench.frameOf(START_ANSWER));
    }

    static int[] frameOf(int control) {
        return new int[] {104, 4, control, 0, 0, 0};
    }

    static int[] ackOf(int ack) {
        return new int[] {104, 4, 1, 0, ack % 128 * 2, ack / 128};
    }

    /** THE OUT holds just these FRAMES; they go. */
    void outIs(int[]... frames) {
        int[] want = join(frames);
        List<Integer> got = new ArrayList<>();
        int length = read(2);
        for (int i = 0; i < length; i++) {
            got.add(used(station.out(i)));
        }
        note("THE OUT", Arrays.toString(got.stream().mapToInt(x -> x).toArray()), Arrays.toString(want));
        take(length, 0);
    }

    /** Empties THE OUT without a look. */
    void skipOut() {
        take(read(2), 0);
    }
}
