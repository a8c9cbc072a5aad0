import java.util.ArrayList;
import java.util.List;
import java.util.Random;

/**
 * Long runs of calls, sound and unsound: none may throw, and what stands in THE OUT must be
 * FRAMES whose NUMBERS follow one another and whose ACKS tell what came.
 */
public final class FuzzTest {
    private static final int RUNS = 3000, CALLS = 512;
    private static final int[] EDGES = {Integer.MIN_VALUE, -65536, -2, -1, 0, 1, 2, 7, 8, 12, 24, 255, 1000, 65536,
        16777216, Integer.MAX_VALUE};

    private final Random random;
    private final ControlledStation station = new ControlledStation();
    private final List<Integer> stream = new ArrayList<>();
    private final List<Integer> answers = new ArrayList<>();
    private int peerNumber;
    private int numberSeen;

    private FuzzTest(long seed) {
        random = new Random(seed);
    }

    public static void main(String[] args) {
        Bench b = new Bench("fuzz");
        for (int seed = 0; seed < RUNS; seed++) {
            FuzzTest once = new FuzzTest(seed);
            FuzzTest again = new FuzzTest(seed);
            String fault = once.run();
            again.run();
            b.due("run " + seed + ": " + fault, fault == null);
            b.due("run " + seed + " answers the same again", once.answers.equals(again.answers));
        }
        Bench.finish();
    }

    private String run() {
        boolean wild = random.nextInt(4) == 0;
        setUp();
        String fault = null;
        for (int i = 0; i < CALLS && fault == null; i++) {
            if (wild && random.nextInt(3) == 0) {
                anyCall();
            } else {
                soundCall();
            }
            fault = limits();
            if (fault == null && random.nextInt(6) == 0) {
                fault = readOut();
            }
        }
        return fault == null ? readOut() : fault;
    }

    private void setUp() {
        if (random.nextBoolean()) {
            station.set(1, 1 + random.nextInt(12));
            station.set(2, 1 + random.nextInt(12));
        }
        int points = random.nextInt(25);
        for (int i = 0; i < points; i++) {
            station.point(random.nextInt(7), 1 + random.nextInt(60), random.nextInt(4), random.nextBoolean());
        }
        int commands = random.nextInt(13);
        for (int i = 0; i < commands; i++) {
            int point = random.nextInt(26) - 1;
            station.command(random.nextInt(3), 61 + random.nextInt(60), point, random.nextBoolean());
        }
    }

    private int edge() {
        return random.nextBoolean() ? EDGES[random.nextInt(EDGES.length)] : random.nextInt(40) - 4;
    }

    private void anyCall() {
        switch (random.nextInt(12)) {
            case 0: answers.add(station.set(edge(), edge())); break;
            case 1: answers.add(station.point(edge(), edge(), edge(), random.nextBoolean())); break;
            case 2: answers.add(station.command(edge(), edge(), edge(), random.nextBoolean())); break;
            case 3: answers.add(station.change(edge(), random.nextInt(), edge())); break;
            case 4: answers.add(station.close()); break;
            case 5: answers.add(station.come(edge(), random.nextLong())); break;
            case 6: answers.add(station.tick(edge())); break;
            case 7: answers.add(station.out(edge())); break;
            case 8: answers.add(station.told(edge(), edge())); break;
            case 9: answers.add(station.ordered(edge(), edge())); break;
            case 10: answers.add(station.clock(edge())); break;
            default: answers.add(station.count(edge())); break;
        }
    }

    private void soundCall() {
        if (station.count(0) == 0) {
            open();
            return;
        }
        switch (random.nextInt(10)) {
            case 0: case 1: case 2:
                change();
                break;
            case 3:
                answers.add(station.tick(random.nextInt(12)));
                break;
            case 4: case 5:
                send(0x01, 0, ack());
                break;
            case 6:
                control();
                break;
            default:
                data();
                break;
        }
    }

    private void open() {
        readOut();
        answers.add(station.open());
        stream.clear();
        peerNumber = 0;
        numberSeen = 0;
        control(7);
    }

    private void change() {
        answers.add(station.change(random.nextInt(24), random.nextInt(4), random.nextInt(4) * 2));
    }

    private void control() {
        int[] controls = {7, 7, 7, 11, 19, 35, 67, 131};
        control(controls[random.nextInt(controls.length)]);
    }

    private void control(int control) {
        bytes(104, 4, control, 0, 0, 0);
    }

    private int ack() {
        int sent = station.count(3);
        return sent - random.nextInt(station.count(4) + 1);
    }

    private void send(int c0, int c1, int ack, int... rest) {
        int[] frame = new int[6 + rest.length];
        frame[0] = 104;
        frame[1] = 4 + rest.length;
        frame[2] = c0;
        frame[3] = c1;
        frame[4] = ack % 128 * 2;
        frame[5] = ack / 128;
        System.arraycopy(rest, 0, frame, 6, rest.length);
        bytes(frame);
    }

    private void data() {
        int[] types = {45, 46, 49, 100, 101, 102, 103, 104, 45, 46, 49, 100, 7};
        int[] lengths = {10, 10, 12, 10, 10, 9, 16, 11, 10, 10, 12, 10, 20};
        int kind = random.nextInt(types.length);
        int[] rest = new int[random.nextInt(20) == 0 ? random.nextInt(250) : lengths[kind]];
        int[] head = {types[kind], 1, types[kind] == 102 ? 5 : random.nextInt(6) == 0 ? 8 : 6, random.nextInt(2), 1, 0,
            kind < 3 || kind > 7 && kind < 11 ? 61 + random.nextInt(60) : kind == 5 ? random.nextInt(60) : 0, 0, 0};
        for (int i = 0; i < rest.length; i++) {
            rest[i] = i < head.length ? head[i] : random.nextInt(256);
        }
        if (rest.length == 10 && random.nextBoolean()) {
            rest[9] = types[kind] == 100 ? 20 + random.nextInt(4) : 5 | random.nextInt(4) << 6;
        }
        int before = station.count(5);
        send(peerNumber % 128 * 2, peerNumber / 128, ack(), rest);
        peerNumber = station.count(5) > before ? peerNumber + 1 : peerNumber;
    }

    private void bytes(int... bytes) {
        int from = 0;
        while (from < bytes.length) {
            int n = Math.min(1 + random.nextInt(8), bytes.length - from);
            long v = random.nextLong();
            for (int i = 0; i < n; i++) {
                v = v << 8 | bytes[from + i];
            }
            answers.add(station.come(n, v));
            from += n;
        }
    }

    private String limits() {
        int unacknowledged = station.count(4);
        int[] most = {3, 7, 4096, 40000, 12, 40000, 12, 60, 52, 1, 40000, 40000, 24, 12};
        for (int what = 0; what < most.length; what++) {
            int is = station.count(what);
            answers.add(is);
            if (is < 0 || is > most[what]) {
                return "count(" + what + ") is " + is;
            }
        }
        if (station.count(0) == 0 && unacknowledged + station.count(6) + station.count(7) + station.count(9) != 0) {
            return "CLOSED, but something waits";
        }
        int selected = 0;
        for (int i = 0; i < station.count(13); i++) {
            selected += station.ordered(i, 0);
        }
        return selected > 1 ? "more than one is SELECTED" : null;
    }

    private String readOut() {
        int length = station.count(2);
        for (int i = 0; i < length; i++) {
            stream.add(station.out(i));
        }
        if (station.take(length) != 0) {
            return "take leaves bytes";
        }
        answers.addAll(stream);
        while (!stream.isEmpty()) {
            String fault = readFrame();
            if (fault != null) {
                return fault;
            }
        }
        return numberSeen == station.count(3) ? null : numberSeen + " I FRAMES seen, not " + station.count(3);
    }

    private String readFrame() {
        if (stream.size() < 6 || stream.get(0) != 104 || stream.size() < stream.get(1) + 2) {
            return "no FRAME: " + stream;
        }
        List<Integer> frame = new ArrayList<>(stream.subList(0, stream.get(1) + 2));
        stream.subList(0, frame.size()).clear();
        int number = frame.get(2) / 2 + 128 * frame.get(3);
        if (frame.get(2) % 2 == 0 && number != numberSeen++) {
            return "NUMBER " + number + " in " + frame;
        }
        boolean tells = frame.get(2) % 2 == 0 || frame.get(2) == 1;
        int ack = frame.get(4) / 2 + 128 * frame.get(5);
        return tells && ack > station.count(5) ? "ACK " + ack + " in " + frame : null;
    }
}
