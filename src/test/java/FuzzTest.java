import java.util.ArrayList;
import java.util.List;
import java.util.Random;

/**
 * Long runs of calls, sound and unsound: none may throw, and what stands in THE OUT must be
 * FRAMES whose NUMBERS follow one another and whose ACKS tell what came. Each run is made again
 * with calls between that must be refused: all else must be answered as without them.
 */
public final class FuzzTest {
    private static final int RUNS = 3000, CALLS = 512;
    private static final int[] EDGES = {Integer.MIN_VALUE, -65536, -2, -1, 0, 1, 2, 7, 8, 12, 24, 255, 1000, 65536,
        16777216, Integer.MAX_VALUE};

    private final Random random;
    private final Random refusals;
    private final ControlledStation station = new ControlledStation();
    private final List<Integer> stream = new ArrayList<>();
    private final List<Integer> answers = new ArrayList<>();
    private int peerNumber;
    private int numberSeen;

    private FuzzTest(long seed, Random refusals) {
        random = new Random(seed);
        this.refusals = refusals;
    }

    public static void main(String[] args) {
        Bench b = new Bench("fuzz");
        for (int seed = 0; seed < RUNS; seed++) {
            FuzzTest once = new FuzzTest(seed, null);
            FuzzTest again = new FuzzTest(seed, null);
            String fault = once.run();
            again.run();
            b.due("run " + seed + ": " + fault, fault == null);
            b.due("run " + seed + " answers the same again", once.answers.equals(again.answers));
            refusedChangesNothing(b, seed, once);
        }
        Bench.finish();
    }

    private static void refusedChangesNothing(Bench b, int seed, FuzzTest without) {
        FuzzTest with = new FuzzTest(seed, new Random(-seed));
        String fault = with.run();
        b.due("run " + seed + " with refused calls: " + fault, fault == null);
        b.due("run " + seed + " answers as without the refused calls", with.answers.equals(without.answers));
    }

    private String run() {
        boolean wild = random.nextInt(4) == 0;
        setUp();
        String fault = null;
        for (int i = 0; i < CALLS && fault == null; i++) {
            if (refusals != null) {
                fault = refusedCalls();
            }
            if (wild && random.nextInt(3) == 0) {
                anyCall();
            } else {
                soundCall();
            }
            fault = fault == null ? limits() : fault;
            if (fault == null && random.nextInt(6) == 0) {
                fault = readOut();
            }
        }
        return fault == null ? readOut() : fault;
    }

    private void setUp() {
        if (random.nextBoolean()) {
            station.set(1, 1 + random.nextInt(12));
            station.set(2, 1 + random.nextInt(12));
        }
        if (random.nextBoolean()) {
            for (int timer = 3; timer <= 6; timer++) {
                station.set(timer, 1 + random.nextInt(60));
            }
        }
        int points = random.nextInt(25);
        for (int i = 0; i < points; i++) {
            station.point(random.nextInt(7), 1 + random.nextInt(60), random.nextInt(4), random.nextBoolean());
        }
        int commands = random.nextInt(13);
        for (int i = 0; i < commands; i++) {
            int point = random.nextInt(26) - 1;
            station.command(random.nextInt(3), 61 + random.nextInt(60), point, random.nextBoolean());
        }
    }

    private String refusedCalls() {
        for (int i = refusals.nextInt(4); i > 0; i--) {
            int kind = refusals.nextInt(14);
            int answer = refusedCall(kind, station.count(0) == 0);
            if (answer >= 0) {
                return "call " + kind + " that must be refused answered " + answer;
            }
        }
        return null;
    }

    private int outside(int least, int most) {
        int[] all = {least - 1, most + 1, least - 1 - refusals.nextInt(100), most + 1 + refusals.nextInt(100),
            Integer.MIN_VALUE, Integer.MAX_VALUE};
        return all[refusals.nextInt(all.length)];
    }

    /** told refuses by 0, so its answer is made -1 here. */
    private int refusedCall(int kind, boolean isClosed) {
        int points = station.count(12);
        int commands = station.count(13);
        switch (kind) {
            case 0: return isClosed ? station.set(outside(0, 6), 1) : station.set(refusals.nextInt(7), 5);
            case 1: return station.set(1 + refusals.nextInt(6), outside(1, 1000));
            case 2: return refusedPoint(points);
            case 3: return refusedCommand(commands, points);
            case 4: return station.change(outside(0, points - 1), 0, 0);
            case 5: return refusedChange(points);
            case 6: return isClosed ? station.close() : station.open();
            case 7: return station.come(isClosed ? 1 + refusals.nextInt(8) : outside(1, 8), refusals.nextLong());
            case 8: return station.tick(outside(0, 1000));
            case 9: return station.out(outside(0, station.count(2) - 1));
            case 10: return station.take(outside(0, station.count(2)));
            case 11: return station.told(outside(0, points - 1), refusals.nextInt(7)) - 1;
            case 12: return station.ordered(outside(0, commands - 1), refusals.nextInt(3));
            default: return refusals.nextBoolean() ? station.clock(outside(0, 6)) : station.count(outside(0, 13));
        }
    }

    private int refusedPoint(int points) {
        switch (refusals.nextInt(points == 0 ? 3 : 5)) {
            case 0: return station.point(outside(0, 6), 9999, 0, true);
            case 1: return station.point(0, outside(1, 16777215), 0, true);
            case 2: return station.point(0, 9999, outside(0, 16), true);
            case 3: return station.point(0, station.told(refusals.nextInt(points), 1), 0, true);
            default: return station.point(0, points == 24 ? 9999 : 0, 0, true);
        }
    }

    private int refusedCommand(int commands, int points) {
        switch (refusals.nextInt(points == 0 ? 3 : 5)) {
            case 0: return station.command(outside(0, 2), 9999, -1, true);
            case 1: return station.command(0, outside(1, 16777215), -1, true);
            case 2: return station.command(0, 9999, outside(-1, points - 1), true);
            case 3: return station.command(0, station.told(refusals.nextInt(points), 1), -1, true);
            default: return station.command(0, commands == 12 ? 9999 : 0, -1, true);
        }
    }

    /** FULL where that fits, else BAD by a bit that no POINT has. */
    private int refusedChange(int points) {
        int point = points == 0 ? 0 : refusals.nextInt(points);
        boolean isFull = points > 0 && station.count(8) >= 40 && station.told(point, 0) != 6;
        int quality = isFull ? station.told(point, 5) ^ 16 : 32;
        return station.change(point, station.told(point, 4) ^ 1, quality);
    }

    private int edge() {
        return random.nextBoolean() ? EDGES[random.nextInt(EDGES.length)] : random.nextInt(40) - 4;
    }

    private void anyCall() {
        switch (random.nextInt(12)) {
            case 0: answers.add(station.set(edge(), edge())); break;
            case 1: answers.add(station.point(edge(), edge(), edge(), random.nextBoolean())); break;
            case 2: answers.add(station.command(edge(), edge(), edge(), random.nextBoolean())); break;
            case 3: answers.add(station.change(edge(), random.nextInt(), edge())); break;
            case 4: answers.add(station.close()); break;
            case 5: answers.add(station.come(edge(), random.nextLong())); break;
            case 6: answers.add(station.tick(edge())); break;
            case 7: answers.add(station.out(edge())); break;
            case 8: answers.add(station.told(edge(), edge())); break;
            case 9: answers.add(station.ordered(edge(), edge())); break;
            case 10: answers.add(station.clock(edge())); break;
            default: answers.add(station.count(edge())); break;
        }
    }

    private void soundCall() {
        if (station.count(0) == 0) {
            open();
            return;
        }
        switch (random.nextInt(10)) {
            case 0: case 1: case 2:
                change();
                break;
            case 3:
                answers.add(station.tick(random.nextInt(12)));
                break;
            case 4: case 5:
                send(0x01, 0, ack());
                break;
            case 6:
                control();
                break;
            default:
                data();
                break;
        }
    }

    private void open() {
        readOut();
        answers.add(station.open());
        stream.clear();
        peerNumber = 0;
        numberSeen = 0;
        control(7);
    }

    private void change() {
        answers.add(station.change(random.nextInt(24), random.nextInt(4), random.nextInt(4) * 2));
    }

    private void control() {
        int[] controls = {7, 7, 7, 11, 19, 35, 67, 131};
        control(controls[random.nextInt(controls.length)]);
    }

    private void control(int control) {
        bytes(104, 4, control, 0, 0, 0);
    }

    private int ack() {
        int sent = station.count(3);
        return sent - random.nextInt(station.count(4) + 1);
    }

    private void send(int c0, int c1, int ack, int... rest) {
        int[] frame = new int[6 + rest.length];
        frame[0] = 104;
        frame[1] = 4 + rest.length;
        frame[2] = c0;
        frame[3] = c1;
        frame[4] = ack % 128 * 2;
        frame[5] = ack / 128;
        System.arraycopy(rest, 0, frame, 6, rest.length);
        bytes(frame);
    }

    private void data() {
        int[] types = {45, 46, 49, 100, 101, 102, 103, 104, 45, 46, 49, 100, 7};
        int[] lengths = {10, 10, 12, 10, 10, 9, 16, 11, 10, 10, 12, 10, 20};
        int kind = random.nextInt(types.length);
        int[] rest = new int[random.nextInt(20) == 0 ? random.nextInt(250) : lengths[kind]];
        int[] head = {types[kind], 1, types[kind] == 102 ? 5 : random.nextInt(6) == 0 ? 8 : 6, random.nextInt(2), 1, 0,
            kind < 3 || kind > 7 && kind < 11 ? 61 + random.nextInt(60) : kind == 5 ? random.nextInt(60) : 0, 0, 0};
        for (int i = 0; i < rest.length; i++) {
            rest[i] = i < head.length ? head[i] : random.nextInt(256);
        }
        if (rest.length == 10 && random.nextBoolean()) {
            rest[9] = types[kind] == 100 ? 20 + random.nextInt(4) : 5 | random.nextInt(4) << 6;
        }
        int before = station.count(5);
        send(peerNumber % 128 * 2, peerNumber / 128, ack(), rest);
        peerNumber = station.count(5) > before ? peerNumber + 1 : peerNumber;
    }

    private void bytes(int... bytes) {
        int from = 0;
        while (from < bytes.length) {
            int n = Math.min(1 + random.nextInt(8), bytes.length - from);
            long v = random.nextLong();
            for (int i = 0; i < n; i++) {
                v = v << 8 | bytes[from + i];
            }
            answers.add(station.come(n, v));
            from += n;
        }
    }

    private String limits() {
        int unacknowledged = station.count(4);
        int[] most = {3, 7, 4096, 40000, 12, 40000, 12, 60, 52, 1, 40000, 40000, 24, 12};
        for (int what = 0; what < most.length; what++) {
            int is = station.count(what);
            answers.add(is);
            if (is < 0 || is > most[what]) {
                return "count(" + what + ") is " + is;
            }
        }
        if (station.count(0) == 0 && unacknowledged + station.count(6) + station.count(7) + station.count(9) != 0) {
            return "CLOSED, but something waits";
        }
        int selected = 0;
        for (int i = 0; i < station.count(13); i++) {
            selected += station.ordered(i, 0);
        }
        return selected > 1 ? "more than one is SELECTED" : null;
    }

    private String readOut() {
        int length = station.count(2);
        for (int i = 0; i < length; i++) {
            stream.add(station.out(i));
        }
        if (station.take(length) != 0) {
            return "take leaves bytes";
        }
        answers.addAll(stream);
        while (!stream.isEmpty()) {
            String fault = readFrame();
            if (fault != null) {
                return fault;
            }
        }
        return numberSeen == station.count(3) ? null : numberSeen + " I FRAMES seen, not " + station.count(3);
    }

    private String readFrame() {
        if (stream.size() < 6 || stream.get(0) != 104 || stream.size() < stream.get(1) + 2) {
            return "no FRAME: " + stream;
        }
        List<Integer> frame = new ArrayList<>(stream.subList(0, stream.get(1) + 2));
        stream.subList(0, frame.size()).clear();
        int number = frame.get(2) / 2 + 128 * frame.get(3);
        if (frame.get(2) % 2 == 0 && number != numberSeen++) {
            return "NUMBER " + number + " in " + frame;
        }
        boolean tells = frame.get(2) % 2 == 0 || frame.get(2) == 1;
        int ack = frame.get(4) / 2 + 128 * frame.get(5);
        return tells && ack > station.count(5) ? "ACK " + ack + " in " + frame : null;
    }
}
