import java.util.Arrays;

/** Promise 8, part 3: the rests of I FRAMES but for COMMANDS; and promise 15's ANSWERS and PASSED BY. */
public final class RestTest {
    private static final int DENIED = 64, T = 128;

    public static void main(String[] args) {
        shortRests();
        unknownTypes();
        unknownCauses();
        wrongStations();
        wrongLengths();
        wrongSecondByte();
        wrongAddresses();
        theFirstFaultCounts();
        thatDeniedCameIsOfNoMatter();
        interrogationOfAll();
        interrogationOfGroups();
        interrogationByAddresses();
        interrogationDenied();
        interrogationWithT();
        counters();
        countersOnly();
        freezesInObjects();
        countersDenied();
        countersWithT();
        readings();
        readingsWithT();
        clocks();
        clocksDenied();
        tests();
        sixtyAnswers();
        sixtyFirstAnswerOfInterrogation();
        sixtyFirstAnswerOfCommand();
        sixtyFirstAnswerOfCommandWithoutPoint();
        sixtyFirstAnswerOfSelection();
        sixtyFirstAnswerOfClock();
        sixtyFirstAnswerOfCounters();
        sixtyFirstAnswerOfCountersRead();
        answersGoWithTheLink();
        answersInOrder();
        Bench.finish();
    }

    private static Bench station(String name) {
        Bench b = new Bench(name);
        b.point(0, 5, 1, false, 0);
        b.point(6, 6, 1, false, 1);
        b.command(0, 7, 0, false, 0);
        b.command(1, 8, -1, false, 1);
        b.command(2, 9, -1, false, 2);
        b.started();
        return b;
    }

    /** Sends a rest, and sees that the one ANSWER is the same but for its CAUSE. */
    private static void same(Bench b, int cause, int... rest) {
        int sent = b.station.count(3);
        b.i(rest);
        int[] answer = rest.clone();
        answer[2] = cause;
        b.outIs(Bench.data(sent, sent + 1, answer));
        b.s(sent + 1);
    }

    private static void passedBy(Bench b, int... rest) {
        int before = b.station.count(10);
        b.i(rest);
        b.count(2, 0);
        b.count(7, 0);
        b.count(10, before + 1);
    }

    private static void shortRests() {
        Bench b = station("rests shorter than 9 bytes");
        b.set(2, 12, -2);
        passedBy(b);
        passedBy(b, 200);
        passedBy(b, 200, 1, 6, 0, 1, 0, 0, 0);
        passedBy(b, 102, 1, 5, 0, 1, 0, 5, 0);
        b.count(5, 4);
    }

    private static void unknownTypes() {
        int[] types = {0, 1, 44, 47, 48, 50, 99, 105, 128, 255};
        for (int type : types) {
            same(station("TYPE " + type), 44 | DENIED, type, 9, 0, 3, 4, 5, 6, 7, 8);
            same(station("TYPE " + type + " with T"), 44 | DENIED | T, type, 9, T, 3, 4, 5, 6, 7, 8, 9);
        }
    }

    private static void unknownCauses() {
        int[] types = {45, 46, 49, 100, 101, 102, 103, 104};
        for (int type : types) {
            Bench b = station("CAUSES of " + type);
            for (int cause = 3; cause <= 10; cause++) {
                boolean told = type == 102 ? cause == 5 : cause == 6 || cause == 8 && type <= 100;
                if (!told) {
                    same(b, 45 | DENIED, type, 2, cause, 3, 4, 5, 6, 7, 8);
                }
            }
            same(b, 45 | DENIED | T, type, 2, T | 63, 3, 4, 5, 6, 7, 8);
        }
    }

    private static void wrongStations() {
        int[] types = {45, 46, 49, 100, 101, 102, 103, 104};
        for (int type : types) {
            int cause = type == 102 ? 5 : 6;
            Bench b = station("stations of " + type);
            same(b, 46 | DENIED, type, 2, cause, 3, 2, 0, 0, 0, 0);
            same(b, 46 | DENIED, type, 2, cause, 3, 0, 1, 0, 0, 0);
            same(b, 46 | DENIED, type, 2, cause, 3, 254, 255, 0, 0, 0);
            if (type < 100) {
                same(b, 46 | DENIED, type, 1, cause, 3, 255, 255, 7, 0, 0, 1);
            } else {
                passedBy(b, type, 2, cause, 3, 255, 255, 0, 0, 0);
            }
        }
        Bench b = station("every station");
        same(b, 7, 104, 1, 6, 3, 255, 255, 0, 0, 0, 170, 85);
        b.i(102, 1, 5, 3, 255, 255, 5, 0, 0);
        b.outIs(Bench.data(1, 2, 1, 1, 5, 3, 1, 0, 5, 0, 0, 0));
        Bench c = new Bench("another station");
        c.set(0, 0x1234, 1);
        c.started();
        same(c, 7, 104, 1, 6, 3, 0x34, 0x12, 0, 0, 0, 170, 85);
        same(c, 46 | DENIED, 104, 1, 6, 3, 1, 0, 0, 0, 0, 170, 85);
    }

    private static void wrongLengths() {
        int[][] lengths = {{45, 10}, {46, 10}, {49, 12}, {100, 10}, {101, 10}, {102, 9}, {103, 16}, {104, 11}};
        for (int[] pair : lengths) {
            Bench b = station("lengths of " + pair[0]);
            for (int length = 9; length <= 18; length++) {
                if (length != pair[1]) {
                    int[] rest = new int[length];
                    rest[0] = pair[0];
                    rest[1] = 1;
                    rest[2] = pair[0] == 102 ? 5 : 6;
                    rest[4] = 1;
                    rest[6] = 77;
                    int before = b.station.count(10);
                    b.i(rest);
                    b.count(7, 0);
                    b.count(3, 0);
                    b.count(10, before + 1);
                }
            }
        }
    }

    private static void wrongSecondByte() {
        Bench b = station("the second byte");
        int[] wrong = {0, 2, 129, 255};
        for (int second : wrong) {
            passedBy(b, 104, second, 6, 3, 1, 0, 77, 0, 0, 170, 85);
        }
        b.i(104, 1, 6, 3, 1, 0, 0, 0, 0, 170, 85);
        b.count(3, 1);
    }

    private static void wrongAddresses() {
        Bench b = station("ADDRESSES");
        same(b, 47 | DENIED, 45, 1, 6, 3, 1, 0, 8, 0, 0, 1);
        same(b, 47 | DENIED, 45, 1, 8, 3, 1, 0, 5, 0, 0, 1);
        same(b, 47 | DENIED, 46, 1, 6, 3, 1, 0, 7, 0, 0, 1);
        same(b, 47 | DENIED, 46, 1, 6, 3, 1, 0, 8, 1, 0, 1);
        same(b, 47 | DENIED, 49, 1, 6, 3, 1, 0, 8, 0, 0, 1, 0, 0);
        same(b, 47 | DENIED, 49, 1, 6, 3, 1, 0, 9, 0, 1, 1, 0, 0);
        same(b, 47 | DENIED, 102, 1, 5, 3, 1, 0, 7, 0, 0);
        same(b, 47 | DENIED | T, 102, 1, 5 | T, 3, 1, 0, 0, 0, 0);
        same(b, 47 | DENIED, 100, 1, 6, 3, 1, 0, 5, 0, 0, 20);
        same(b, 47 | DENIED, 101, 1, 6, 3, 1, 0, 0, 1, 0, 5);
        same(b, 47 | DENIED, 103, 1, 6, 3, 1, 0, 0, 0, 1, 0, 0, 0, 0, 1, 1, 0);
        same(b, 47 | DENIED, 104, 1, 6, 3, 1, 0, 1, 0, 0, 170, 85);
        b.count(10, 0);
    }

    private static void theFirstFaultCounts() {
        Bench b = station("the first fault");
        same(b, 44 | DENIED, 200, 2, 60, 3, 9, 9, 9, 9, 9);
        same(b, 45 | DENIED, 100, 2, 60, 3, 9, 9, 9, 9, 9);
        same(b, 46 | DENIED, 100, 2, 6, 3, 9, 9, 9, 9, 9);
        passedBy(b, 100, 2, 6, 3, 1, 0, 9, 9, 9, 99);
        passedBy(b, 100, 1, 6, 3, 1, 0, 9, 9, 9);
        b.i(100, 1, 6, 3, 1, 0, 9, 9, 9, 99);
        b.outIs(Bench.data(3, 6, 100, 1, 47 | DENIED, 3, 1, 0, 9, 9, 9, 99));
    }

    private static void thatDeniedCameIsOfNoMatter() {
        Bench b = station("64 came");
        same(b, 7, 104, 1, 6 | DENIED, 3, 1, 0, 0, 0, 0, 170, 85);
        same(b, 7 | T, 104, 1, 6 | DENIED | T, 3, 1, 0, 0, 0, 0, 170, 85);
        same(b, 45 | DENIED, 104, 1, 5 | DENIED, 3, 1, 0, 0, 0, 0, 170, 85);
    }

    private static void interrogationOfAll() {
        Bench b = new Bench("100, q 20");
        for (int sort = 0; sort < 7; sort++) {
            b.point(sort, 16 + sort, sort, sort % 2 == 0, sort);
        }
        b.change(0, 1, 16, 1);
        b.change(5, 0x40490FDB, 8, 1);
        b.open(1);
        b.u(Bench.START);
        b.skipOut();
        b.i(100, 1, 6, 9, 255, 255, 0, 0, 0, 20);
        b.outIs(Bench.data(2, 1, 100, 1, 7, 9, 255, 255, 0, 0, 0, 20),
            Bench.data(3, 1, 1, 1, 20, 0, 1, 0, 16, 0, 0, 129),
            Bench.data(4, 1, 3, 1, 20, 0, 1, 0, 17, 0, 0, 0),
            Bench.data(5, 1, 5, 1, 20, 0, 1, 0, 18, 0, 0, 0, 0),
            Bench.data(6, 1, 9, 1, 20, 0, 1, 0, 19, 0, 0, 0, 0, 0),
            Bench.data(7, 1, 11, 1, 20, 0, 1, 0, 20, 0, 0, 0, 0, 0),
            Bench.data(8, 1, 13, 1, 20, 0, 1, 0, 21, 0, 0, 0xDB, 0x0F, 0x49, 0x40, 64),
            Bench.data(9, 1, 100, 1, 10, 9, 255, 255, 0, 0, 0, 20));
        b.count(6, 0);
    }

    private static void interrogationOfGroups() {
        Bench b = new Bench("100, q 21 to 36");
        b.point(0, 16, 0, false, 0);
        b.point(0, 17, 1, false, 1);
        b.point(0, 18, 16, false, 2);
        b.point(6, 19, 1, false, 3);
        b.point(0, 20, 1, false, 4);
        b.started();
        b.i(100, 1, 6, 9, 1, 0, 0, 0, 0, 21);
        b.outIs(Bench.data(0, 1, 100, 1, 7, 9, 1, 0, 0, 0, 0, 21),
            Bench.data(1, 1, 1, 2, 21, 0, 1, 0, 17, 0, 0, 0, 20, 0, 0, 0),
            Bench.data(2, 1, 100, 1, 10, 9, 1, 0, 0, 0, 0, 21));
        b.i(100, 1, 6, 9, 1, 0, 0, 0, 0, 36);
        b.outIs(Bench.data(3, 2, 100, 1, 7, 9, 1, 0, 0, 0, 0, 36),
            Bench.data(4, 2, 1, 1, 36, 0, 1, 0, 18, 0, 0, 0),
            Bench.data(5, 2, 100, 1, 10, 9, 1, 0, 0, 0, 0, 36));
        b.i(100, 1, 6, 9, 1, 0, 0, 0, 0, 35);
        b.outIs(Bench.data(6, 3, 100, 1, 7, 9, 1, 0, 0, 0, 0, 35),
            Bench.data(7, 3, 100, 1, 10, 9, 1, 0, 0, 0, 0, 35));
    }

    private static void interrogationByAddresses() {
        Bench b = new Bench("100 by ADDRESSES, six a FRAME");
        // 13 SINGLES and a DOUBLE amid them, made from the highest ADDRESS down, then up.
        int[] addresses = {14, 13, 12, 11, 10, 9, 8, 1, 2, 3, 4, 5, 6, 7};
        for (int i = 0; i < addresses.length; i++) {
            b.point(addresses[i] == 3 ? 1 : 0, addresses[i], 0, i % 2 == 0, i);
        }
        b.point(6, 15, 0, false, 14);
        b.point(0, 16, 0, false, 15);
        b.started();
        b.i(100, 1, 6, 9, 1, 0, 0, 0, 0, 20);
        b.take(16, 20 + 16 + 36 + 36 + 16);
        b.outIs(Bench.data(1, 1, 1, 2, 20, 0, 1, 0, 1, 0, 0, 0, 2, 0, 0, 0),
            Bench.data(2, 1, 3, 1, 20, 0, 1, 0, 3, 0, 0, 0),
            Bench.data(3, 1, 1, 6, 20, 0, 1, 0, 4, 0, 0, 0, 5, 0, 0, 0, 6, 0, 0, 0, 7, 0, 0, 0, 8, 0, 0, 0, 9, 0, 0, 0),
            Bench.data(4, 1, 1, 6, 20, 0, 1, 0,
                10, 0, 0, 0, 11, 0, 0, 0, 12, 0, 0, 0, 13, 0, 0, 0, 14, 0, 0, 0, 16, 0, 0, 0),
            Bench.data(5, 1, 100, 1, 10, 9, 1, 0, 0, 0, 0, 20));
    }

    private static void interrogationDenied() {
        Bench b = station("100 denied");
        int[] wrong = {0, 19, 37, 255};
        for (int q : wrong) {
            same(b, 7 | DENIED, 100, 1, 6, 3, 1, 0, 0, 0, 0, q);
        }
        same(b, 9 | DENIED, 100, 1, 8, 3, 1, 0, 0, 0, 0, 20);
        same(b, 9 | DENIED | T, 100, 1, 8 | T, 3, 1, 0, 0, 0, 0, 0);
        same(b, 7 | DENIED | T, 100, 1, 6 | T, 3, 1, 0, 0, 0, 0, 37);
    }

    private static void interrogationWithT() {
        Bench b = station("100 with T");
        b.i(100, 1, 6 | T, 9, 1, 0, 0, 0, 0, 20);
        b.outIs(Bench.data(0, 1, 100, 1, 7 | T, 9, 1, 0, 0, 0, 0, 20),
            Bench.data(1, 1, 100, 1, 10 | T, 9, 1, 0, 0, 0, 0, 20));
    }

    /** Sends a 101 and sees that it is answered by 7 and 10, and the FRAMES between. */
    private static void counterOrder(Bench b, int byteOfOrder, int[]... between) {
        int sent = b.station.count(3);
        int came = b.station.count(5) + 1;
        b.i(101, 1, 6, 3, 1, 0, 0, 0, 0, byteOfOrder);
        int[] all = Bench.data(sent, came, 101, 1, 7, 3, 1, 0, 0, 0, 0, byteOfOrder);
        for (int i = 0; i < between.length; i++) {
            all = Bench.join(all, Bench.data(sent + 1 + i, came, between[i]));
        }
        int last = sent + 1 + between.length;
        b.outIs(all, Bench.data(last, came, 101, 1, 10, 3, 1, 0, 0, 0, 0, byteOfOrder));
        b.s(last + 1);
    }

    private static void counters() {
        Bench b = new Bench("101");
        b.point(6, 9, 3, true, 0);
        b.point(0, 8, 3, false, 1);
        b.point(6, 7, 0, false, 2);
        b.change(0, -2, 0, 1);
        b.change(2, 258, 16, 1);
        b.started();
        counterOrder(b, 5, new int[] {15, 2, 37, 0, 1, 0, 7, 0, 0, 0, 0, 0, 0, 128, 9, 0, 0, 0, 0, 0, 0, 0});
        counterOrder(b, 64 | 5);
        b.count(11, 1);
        b.told(0, 6, -2);
        b.told(0, 4, -2);
        b.told(2, 6, 258);
        b.told(1, 6, 0);
        b.change(2, 3, 0, 1);
        counterOrder(b, 5, new int[] {15, 2, 37, 0, 1, 0, 7, 0, 0, 2, 1, 0, 0, 1, 9, 0, 0, 254, 255, 255, 255, 1});
        counterOrder(b, 128 | 5);
        b.count(11, 2);
        b.told(2, 6, 3);
        b.told(2, 4, 0);
        b.told(0, 4, 0);
        b.told(0, 6, -2);
        b.change(0, 5, 0, 1);
        counterOrder(b, 192 | 5);
        b.count(11, 2);
        b.told(0, 4, 0);
        b.told(0, 6, -2);
    }

    private static void countersOnly() {
        Bench b = new Bench("101 leaves other POINTS alone");
        b.point(4, 9, 0, false, 0);
        b.change(0, 7, 1, 1);
        b.open(1);
        b.u(Bench.START);
        b.skipOut();
        b.s(1);
        for (int order = 0; order < 4; order++) {
            counterOrder(b, order << 6 | 5);
            b.told(0, 4, 7);
            b.told(0, 5, 1);
            b.told(0, 6, 0);
        }
        b.count(11, 2);
    }

    private static void freezesInObjects() {
        Bench b = new Bench("THE FREEZES modulo 32");
        b.point(6, 9, 3, true, 0);
        b.started();
        for (int i = 0; i < 33; i++) {
            b.i(101, 1, 6, 3, 1, 0, 0, 0, 0, 64 | 5);
            b.s(2 * i + 2);
        }
        b.count(11, 33);
        b.skipOut();
        b.change(0, 7, 16, 1);
        b.i(102, 1, 5, 3, 1, 0, 9, 0, 0);
        b.outIs(Bench.data(66, 34, 15, 1, 5, 3, 1, 0, 9, 0, 0, 7, 0, 0, 0, 129));
    }

    private static void countersDenied() {
        Bench b = station("101 denied");
        int[] wrong = {0, 4, 6, 37, 69, 192, 255};
        for (int order : wrong) {
            if ((order & 63) != 5) {
                same(b, 7 | DENIED, 101, 1, 6, 3, 1, 0, 0, 0, 0, order);
            }
        }
        same(b, 7 | DENIED, 101, 1, 6, 3, 1, 0, 0, 0, 0, 64 | 13);
        b.count(11, 0);
    }

    private static void countersWithT() {
        Bench b = new Bench("101 with T");
        b.point(6, 9, 0, false, 0);
        b.change(0, 4, 0, 1);
        b.started();
        int sent = 0;
        for (int order = 0; order < 4; order++) {
            b.i(101, 1, 6 | T, 3, 1, 0, 0, 0, 0, order << 6 | 5);
            b.outIs(Bench.data(sent, order + 1, 101, 1, 7 | T, 3, 1, 0, 0, 0, 0, order << 6 | 5),
                Bench.data(sent + 1, order + 1, 101, 1, 10 | T, 3, 1, 0, 0, 0, 0, order << 6 | 5));
            sent += 2;
        }
        b.count(11, 0);
        b.told(0, 4, 4);
        b.told(0, 6, 0);
    }

    private static void readings() {
        Bench b = new Bench("102");
        for (int sort = 0; sort < 7; sort++) {
            b.point(sort, 16 + sort, sort, sort % 2 == 1, sort);
        }
        b.change(6, -2, 16, 1);
        b.started();
        int[][] objects = {{1, 0}, {3, 0}, {5, 0, 0}, {9, 0, 0, 0}, {11, 0, 0, 0}, {13, 0, 0, 0, 0, 0},
            {15, 254, 255, 255, 255, 128}};
        for (int sort = 0; sort < 7; sort++) {
            b.i(102, 1, 5, 200, 1, 0, 16 + sort, 0, 0);
            int[] head = {objects[sort][0], 1, 5, 200, 1, 0, 16 + sort, 0, 0};
            int[] behind = java.util.Arrays.copyOfRange(objects[sort], 1, objects[sort].length);
            b.outIs(Bench.data(sort, sort + 1, Bench.join(head, behind)));
        }
    }

    private static void readingsWithT() {
        Bench b = station("102 with T");
        b.i(102, 1, 5 | T, 3, 1, 0, 5, 0, 0);
        b.count(7, 0);
        b.count(3, 0);
        b.count(5, 1);
        b.count(10, 0);
    }

    private static void clocks() {
        Bench b = station("103");
        b.clock(6, 0);
        b.i(103, 1, 6 | T, 3, 1, 0, 0, 0, 0, 1, 2, 3, 4, 5, 6, 7);
        b.clockIs(0, 0, 0, 1, 1, 0, 0);
        b.outIs(Bench.data(0, 1, 103, 1, 7 | T, 3, 1, 0, 0, 0, 0, 1, 2, 3, 4, 5, 6, 7));
        b.i(103, 1, 6, 3, 255, 255, 0, 0, 0, 1, 2, 3, 4, 5, 6, 7);
        b.clockIs(513, 3, 4, 5, 6, 7, 1);
        b.outIs(Bench.data(1, 2, 103, 1, 7, 3, 255, 255, 0, 0, 0, 1, 2, 3, 4, 5, 6, 7));
    }

    private static void clocksDenied() {
        int[][] wrong = {
            {96, 234, 0, 0, 1, 1, 0}, {255, 255, 0, 0, 1, 1, 0}, {0, 0, 60, 0, 1, 1, 0}, {0, 0, 64, 0, 1, 1, 0},
            {0, 0, 128, 0, 1, 1, 0}, {0, 0, 0, 24, 1, 1, 0}, {0, 0, 0, 128, 1, 1, 0}, {0, 0, 0, 0, 0, 1, 0},
            {0, 0, 0, 0, 32, 1, 0}, {0, 0, 0, 0, 33, 1, 0}, {0, 0, 0, 0, 1, 0, 0}, {0, 0, 0, 0, 1, 13, 0},
            {0, 0, 0, 0, 1, 17, 0}, {0, 0, 0, 0, 31, 4, 0}, {0, 0, 0, 0, 31, 6, 0}, {0, 0, 0, 0, 31, 9, 0},
            {0, 0, 0, 0, 31, 11, 0}, {0, 0, 0, 0, 30, 2, 0}, {0, 0, 0, 0, 29, 2, 1}, {0, 0, 0, 0, 29, 2, 98},
            {0, 0, 0, 0, 1, 1, 100}, {0, 0, 0, 0, 1, 1, 129}, {0, 0, 0, 0, 1, 1, 255},
        };
        int[] head = {103, 1, 6, 3, 1, 0, 0, 0, 0};
        for (int[] time : wrong) {
            Bench b = station("103 denied " + java.util.Arrays.toString(time));
            same(b, 7 | DENIED, Bench.join(head, time));
            b.clockIs(0, 0, 0, 1, 1, 0, 0);
        }
        int[][] right = {{95, 234, 59, 23, 31, 12, 99}, {0, 0, 0, 0, 29, 2, 96}, {0, 0, 0, 0, 29, 2, 0},
            {0, 0, 0, 0, 28, 2, 1}, {0, 0, 0, 0, 30, 4, 4}, {0, 0, 0, 0, 31, 7, 4}, {0, 0, 0, 0, 31, 8, 4}};
        for (int[] time : right) {
            Bench b = station("103 " + java.util.Arrays.toString(time));
            same(b, 7, Bench.join(head, time));
            b.clockIs(time[0] + 256 * time[1], time[2], time[3], time[4], time[5], time[6], 1);
        }
    }

    private static void tests() {
        Bench b = station("104");
        same(b, 7, 104, 1, 6, 3, 1, 0, 0, 0, 0, 170, 85);
        same(b, 7 | T, 104, 1, 6 | T, 3, 1, 0, 0, 0, 0, 170, 85);
        same(b, 7 | DENIED, 104, 1, 6, 3, 1, 0, 0, 0, 0, 85, 170);
        same(b, 7 | DENIED, 104, 1, 6, 3, 1, 0, 0, 0, 0, 170, 84);
        same(b, 7 | DENIED, 104, 1, 6, 3, 1, 0, 0, 0, 0, 171, 85);
    }

    /** A station whose one I FRAME is not acknowledged, and so many ANSWERS wait. */
    private static Bench waiting(String name, int answers) {
        Bench b = new Bench(name);
        b.set(1, 1, 12);
        b.point(0, 5, 1, false, 0);
        b.point(1, 6, 1, false, 1);
        b.point(4, 13, 2, false, 2);
        b.point(6, 12, 1, false, 3);
        b.command(0, 7, 0, false, 0);
        b.command(1, 9, 1, false, 1);
        b.command(2, 10, 2, false, 2);
        b.command(0, 11, -1, false, 3);
        b.command(0, 8, 0, true, 4);
        b.started();
        for (int i = 0; i <= answers; i++) {
            b.i(102, 1, 5, i, 1, 0, 5, 0, 0);
        }
        b.count(7, answers);
        b.count(0, 2);
        return b;
    }

    private static void sixtyAnswers() {
        Bench b = waiting("60 ANSWERS", 60);
        b.count(5, 61);
        b.frame(0, 102, 1, 5, 61, 1, 0, 5, 0, 0);
        b.closedBy(7);
        b.count(7, 0);
        b.count(5, 62);
        b.count(4, 0);
        b.count(3, 1);
    }

    private static void sixtyFirstAnswerOfInterrogation() {
        Bench b = waiting("an interrogation that fills", 56);
        b.i(100, 1, 6, 9, 1, 0, 0, 0, 0, 21);
        b.count(7, 60);
        Bench c = waiting("an interrogation that overflows", 57);
        c.frame(0, 100, 1, 6, 9, 1, 0, 0, 0, 0, 21);
        c.closedBy(7);
        c.count(7, 0);
        c.open(1);
        c.u(Bench.START);
        c.outIs(Bench.frameOf(Bench.START_ANSWER));
        c.i(104, 1, 6, 3, 1, 0, 0, 0, 0, 170, 85);
        c.outIs(Bench.data(0, 1, 104, 1, 7, 3, 1, 0, 0, 0, 0, 170, 85));
    }

    /** The 7 with no room: nothing is carried out. A later one: what is told ahead of it stands. */
    private static void sixtyFirstAnswerOfCommand() {
        int[][] orders = {{0, 45, 7, 1}, {1, 46, 9, 2}, {2, 49, 10, 44, 1, 0}};
        int[] values = {1, 2, 300};
        for (int[] order : orders) {
            int[] head = {order[1], 1, 6, 9, 1, 0, order[2], 0, 0};
            int[] rest = Bench.join(head, Arrays.copyOfRange(order, 3, order.length));
            for (int room = 0; room <= 3; room++) {
                Bench b = waiting("TYPE " + order[1] + " with room for " + room, 60 - room);
                b.frame(room == 3 ? 1 : 0, rest);
                b.count(0, room == 3 ? 2 : 0);
                b.count(1, room == 3 ? 0 : 7);
                b.count(7, room == 3 ? 60 : 0);
                b.ordered(order[0], 2, room == 0 ? 0 : 1);
                b.told(order[0], 4, room == 0 ? 0 : values[order[0]]);
            }
        }
    }

    private static void sixtyFirstAnswerOfCommandWithoutPoint() {
        for (int room = 0; room <= 1; room++) {
            Bench b = waiting("a COMMAND of no POINT with room for " + room, 60 - room);
            b.frame(0, 45, 1, 6, 9, 1, 0, 11, 0, 0, 1);
            b.closedBy(7);
            b.ordered(3, 2, room);
        }
    }

    private static void sixtyFirstAnswerOfSelection() {
        Bench b = waiting("a SELECTION with no room", 60);
        b.frame(0, 45, 1, 6, 9, 1, 0, 8, 0, 0, 129);
        b.closedBy(7);
        b.ordered(4, 0, 0);
        b.ordered(4, 1, 0);
        Bench c = waiting("a SELECTED COMMAND with no room", 59);
        c.i(45, 1, 6, 9, 1, 0, 8, 0, 0, 129);
        c.ordered(4, 0, 1);
        c.frame(0, 45, 1, 6, 9, 1, 0, 8, 0, 0, 1);
        c.closedBy(7);
        c.ordered(4, 0, 0);
        c.ordered(4, 2, 0);
        c.told(0, 4, 0);
    }

    private static void sixtyFirstAnswerOfClock() {
        int[] order = {103, 1, 6, 9, 1, 0, 0, 0, 0, 100, 0, 5, 6, 7, 8, 9};
        Bench b = waiting("a TIME with no room", 60);
        b.frame(0, order);
        b.closedBy(7);
        b.clockIs(0, 0, 0, 1, 1, 0, 0);
        Bench c = waiting("a TIME with room for one", 59);
        c.i(order);
        c.count(7, 60);
        c.clockIs(100, 5, 6, 7, 8, 9, 1);
    }

    private static void sixtyFirstAnswerOfCounters() {
        for (int asked = 1; asked <= 3; asked++) {
            for (int room = 0; room <= 2; room++) {
                Bench b = waiting("COUNTERS by " + asked + " with room for " + room, 60 - room);
                b.change(3, 77, 0, 1);
                b.frame(room == 2 ? 1 : 0, 101, 1, 6, 9, 1, 0, 0, 0, 0, asked << 6 | 5);
                b.count(0, room == 2 ? 2 : 0);
                b.count(1, room == 2 ? 0 : 7);
                b.count(11, room == 0 || asked == 3 ? 0 : 1);
                b.told(3, 6, room == 0 || asked == 3 ? 0 : 77);
                b.told(3, 4, room == 0 || asked == 1 ? 77 : 0);
            }
        }
    }

    private static void sixtyFirstAnswerOfCountersRead() {
        for (int room = 0; room <= 3; room++) {
            Bench b = waiting("COUNTERS read with room for " + room, 60 - room);
            b.frame(room == 3 ? 1 : 0, 101, 1, 6, 9, 1, 0, 0, 0, 0, 5);
            b.count(0, room == 3 ? 2 : 0);
            b.count(1, room == 3 ? 0 : 7);
            b.count(7, room == 3 ? 60 : 0);
        }
    }

    private static void answersGoWithTheLink() {
        Bench b = waiting("ANSWERS go", 3);
        b.close(1);
        b.count(7, 0);
        b.open(1);
        b.u(Bench.START);
        b.outIs(Bench.frameOf(Bench.START_ANSWER));
    }

    private static void answersInOrder() {
        Bench b = waiting("ANSWERS in their order", 50);
        b.skipOut();
        for (int ack = 1; ack <= 20; ack++) {
            b.s(ack);
        }
        for (int i = 51; i < 80; i++) {
            b.i(102, 1, 5, i, 1, 0, 5, 0, 0);
        }
        b.count(7, 59);
        b.skipOut();
        for (int ack = 21; ack <= 77; ack++) {
            b.s(ack);
        }
        b.take(b.station.count(2) - 48, 48);
        b.outIs(Bench.data(75, 80, 1, 1, 5, 75, 1, 0, 5, 0, 0, 0), Bench.data(76, 80, 1, 1, 5, 76, 1, 0, 5, 0, 0, 0),
            Bench.data(77, 80, 1, 1, 5, 77, 1, 0, 5, 0, 0, 0));
        b.count(7, 2);
    }
}
