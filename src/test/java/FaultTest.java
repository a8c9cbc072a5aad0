import java.util.Arrays;

/** Part 3's first lines: what is wrong with a rest, which of it counts first, and what is PASSED BY. */
public final class FaultTest {
    private static final int DENIED = 64, T = 128;
    private static final int[] TYPES = {45, 46, 49, 100, 101, 102, 103, 104};
    private static final int[] LENGTHS = {10, 10, 12, 10, 10, 9, 16, 11};

    public static void main(String[] args) {
        shorterThanNineBytes();
        typesNotTold();
        causesNotTold();
        stationsNotThisOne();
        everyStation();
        lengthsNotAsTold();
        secondByte();
        addressesOfNoCommand();
        addressesOfNoPoint();
        addressesNotZero();
        theFirstFaultCounts();
        thatDeniedCameIsOfNoMatter();
        passedByEver();
        Bench.finish();
    }

    /** A rest without a fault, of this length all the same. */
    private static int[] rest(int type, int length) {
        int[] addresses = {7, 8, 9, 0, 0, 5, 0, 0};
        int[] data = new int[Math.max(length, 9)];
        data[0] = type;
        data[1] = 1;
        data[2] = type == 102 ? 5 : 6;
        data[4] = 1;
        data[6] = addresses[placeOf(type)];
        return Arrays.copyOf(data, length);
    }

    private static int placeOf(int type) {
        return Arrays.binarySearch(TYPES, type);
    }

    private static void shorterThanNineBytes() {
        for (int type : TYPES) {
            Bench b = Bench.withCommands("shorter than 9 bytes, TYPE " + type);
            for (int length = 0; length < 9; length++) {
                b.passedBy(rest(type, length));
            }
        }
        Bench b = Bench.withCommands("a TYPE that is not told, of 8 bytes and of 9");
        b.passedBy(200, 0, 0, 0, 0, 0, 0, 0);
        b.same(44 | DENIED, 200, 0, 0, 0, 0, 0, 0, 0, 0);
    }

    private static void typesNotTold() {
        for (int type = 0; type < 256; type++) {
            if (placeOf(type) < 0) {
                Bench.withCommands("TYPE " + type).same(44 | DENIED, type, 1, 6, 3, 1, 0, 0, 0, 0, 20);
                Bench.withCommands("TYPE " + type + " with T").same(44 | DENIED | T, type, 9, T, 3, 4, 5, 6, 7, 8);
            } else {
                Bench b = Bench.withCommands("TYPE " + type);
                b.i(rest(type, LENGTHS[placeOf(type)]));
                b.due("an ANSWER other than 44", b.read(3) > 0 && b.station.out(8) != (44 | DENIED));
            }
        }
    }

    private static void causesNotTold() {
        for (int type : TYPES) {
            for (int cause = 0; cause < 64; cause++) {
                Bench b = Bench.withCommands("CAUSE " + cause + " of " + type);
                boolean told = type == 102 ? cause == 5 : cause == 6 || cause == 8 && type <= 100;
                if (told) {
                    b.passedBy(type, 2, cause, 3, 1, 0, 0, 0, 0);
                } else {
                    b.same(45 | DENIED, type, 2, cause, 3, 4, 5, 6, 7, 8);
                    b.same(45 | DENIED, type, 2, cause | DENIED, 3, 4, 5, 6, 7, 8);
                    b.same(45 | DENIED | T, type, 2, cause | T, 3, 4, 5, 6, 7, 8);
                }
            }
        }
    }

    private static void stationsNotThisOne() {
        for (int own : new int[] {0, 1, 255, 256, 0x1234, 65534}) {
            for (int type : TYPES) {
                Bench b = new Bench("station " + own + ", TYPE " + type);
                b.set(0, own, 1);
                b.started();
                int cause = type == 102 ? 5 : 6;
                int[] others = {own - 1, own + 1, own ^ 256, own ^ 128, own ^ 32768};
                for (int other : others) {
                    int asked = other & 65535;
                    if (asked == 65535) {
                        continue;
                    }
                    b.same(46 | DENIED, type, 2, cause, 3, asked & 255, asked >> 8, 0, 0, 0);
                }
                b.passedBy(type, 2, cause, 3, own & 255, own >> 8, 0, 0, 0);
            }
        }
    }

    private static void everyStation() {
        for (int type : TYPES) {
            Bench b = Bench.withCommands("65535, TYPE " + type);
            int[] asked = rest(type, LENGTHS[placeOf(type)]);
            asked[4] = 255;
            asked[5] = 255;
            if (type < 100) {
                b.same(46 | DENIED, asked);
            } else {
                b.i(asked);
                b.due("it is answered, but not by 46", b.read(3) > 0 && b.station.out(8) != (46 | DENIED));
            }
        }
        Bench b = Bench.withCommands("the station in ANSWERS");
        b.same(7, 104, 1, 6, 3, 255, 255, 0, 0, 0, 170, 85);
        b.i(102, 1, 5, 3, 255, 255, 5, 0, 0);
        b.outIs(Bench.data(1, 2, 1, 1, 5, 3, 1, 0, 5, 0, 0, 0));
    }

    private static void lengthsNotAsTold() {
        for (int type : TYPES) {
            Bench b = Bench.withCommands("lengths of " + type);
            for (int length : new int[] {9, 10, 11, 12, 13, 15, 16, 17, 249}) {
                if (length != LENGTHS[placeOf(type)]) {
                    b.passedBy(rest(type, length));
                }
            }
            b.i(rest(type, LENGTHS[placeOf(type)]));
            b.due("the length that is told is answered", b.read(3) > 0);
        }
    }

    private static void secondByte() {
        for (int type : TYPES) {
            Bench b = Bench.withCommands("the second byte of " + type);
            int[] asked = rest(type, LENGTHS[placeOf(type)]);
            for (int second : new int[] {0, 2, 3, 127, 128, 129, 255}) {
                asked[1] = second;
                b.passedBy(asked);
            }
            asked[1] = 1;
            b.i(asked);
            b.due("one OBJECT is answered", b.read(3) > 0);
        }
    }

    /** Of none, of a POINT, and of a COMMAND of another TYPE. */
    private static void addressesOfNoCommand() {
        for (int place = 0; place < 3; place++) {
            int type = TYPES[place];
            int own = 7 + place;
            for (int cause : new int[] {6, 8}) {
                for (int address : new int[] {0, 5, 6, 7, 8, 9, 10, own + 256, own + 65536, 16777215}) {
                    if (address == own) {
                        continue;
                    }
                    Bench b = Bench.withCommands("ADDRESS " + address + " of " + type);
                    int[] asked = rest(type, LENGTHS[place]);
                    asked[2] = cause;
                    setAddress(asked, address);
                    b.same(47 | DENIED, asked);
                    asked[2] = cause | T;
                    b.same(47 | DENIED | T, asked);
                }
            }
        }
    }

    private static void setAddress(int[] rest, int address) {
        rest[6] = address & 255;
        rest[7] = address >> 8 & 255;
        rest[8] = address >> 16;
    }

    /** Of none, and of a COMMAND. */
    private static void addressesOfNoPoint() {
        for (int address : new int[] {0, 4, 7, 8, 9, 5 + 256, 5 + 65536, 16777215}) {
            Bench b = Bench.withCommands("ADDRESS " + address + " of 102");
            int[] asked = rest(102, 9);
            setAddress(asked, address);
            b.same(47 | DENIED, asked);
            asked[2] = 5 | T;
            b.same(47 | DENIED | T, asked);
        }
    }

    private static void addressesNotZero() {
        for (int type : new int[] {100, 101, 103, 104}) {
            for (int address : new int[] {1, 5, 7, 256, 65536, 16777215}) {
                Bench b = Bench.withCommands("ADDRESS " + address + " of " + type);
                int[] asked = rest(type, LENGTHS[placeOf(type)]);
                setAddress(asked, address);
                b.same(47 | DENIED, asked);
                b.clock(6, 0);
            }
        }
    }

    private static void theFirstFaultCounts() {
        Bench b = Bench.withCommands("the first fault");
        b.same(44 | DENIED, 200, 2, 60, 3, 9, 9, 9, 9, 9);
        b.same(45 | DENIED, 100, 2, 60, 3, 9, 9, 9, 9, 9);
        b.same(46 | DENIED, 100, 2, 6, 3, 9, 9, 9, 9, 9);
        b.passedBy(100, 2, 6, 3, 1, 0, 9, 9, 9, 99);
        b.passedBy(100, 1, 6, 3, 1, 0, 9, 9, 9);
        b.i(100, 1, 6, 3, 1, 0, 9, 9, 9, 99);
        b.outIs(Bench.data(3, 6, 100, 1, 47 | DENIED, 3, 1, 0, 9, 9, 9, 99));
        b.passedBy(200, 2, 60, 3, 9, 9, 9, 9);
    }

    /** It is carried out all the same, and not in the ANSWERS. */
    private static void thatDeniedCameIsOfNoMatter() {
        Bench b = Bench.withCommands("64 came");
        b.same(7, 104, 1, 6 | DENIED, 3, 1, 0, 0, 0, 0, 170, 85);
        b.same(7 | T, 104, 1, 6 | DENIED | T, 3, 1, 0, 0, 0, 0, 170, 85);
        b.same(45 | DENIED, 104, 1, 5 | DENIED, 3, 1, 0, 0, 0, 0, 170, 85);
        b.same(7, 103, 1, 6 | DENIED, 3, 1, 0, 0, 0, 0, 0, 0, 5, 6, 7, 8, 9);
        b.clock(1, 5);
        b.i(102, 1, 5 | DENIED, 3, 1, 0, 5, 0, 0);
        b.outIs(Bench.data(4, 5, 1, 1, 5, 3, 1, 0, 5, 0, 0, 0));
        b.i(45, 1, 6 | DENIED, 3, 1, 0, 7, 0, 0, 1);
        b.outIs(Bench.data(5, 6, 45, 1, 7, 3, 1, 0, 7, 0, 0, 1), Bench.data(6, 6, 1, 1, 11, 3, 1, 0, 5, 0, 0, 1),
            Bench.data(7, 6, 45, 1, 10, 3, 1, 0, 7, 0, 0, 1));
    }

    private static void passedByEver() {
        Bench b = Bench.withCommands("PASSED BY, ever");
        b.passedBy();
        b.passedBy(100, 2, 6, 3, 1, 0, 0, 0, 0, 20);
        b.close(1);
        b.count(10, 2);
        b.started();
        b.count(10, 2);
        b.passedBy(100);
        b.count(10, 3);
    }
}
