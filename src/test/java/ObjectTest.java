/** Part 1, and promise 5's BAD: VALUES, QUALITIES, ADDRESSES and TIMES at their bounds, and the bytes that show them. */
public final class ObjectTest {
    private static final int LEAST = Integer.MIN_VALUE, MOST = Integer.MAX_VALUE;
    private static final int SINGLE = 0, DOUBLE = 1, STEP = 2, NORMAL = 3, SCALED = 4, FLOAT = 5, COUNTER = 6;
    private static final int[] TYPES = {1, 3, 5, 9, 11, 13, 15};

    public static void main(String[] args) {
        valuesAndQualitiesAreZeroAtFirst();
        singleValues();
        doubleValues();
        stepValues();
        normalValues();
        scaledValues();
        floatValues();
        counterValues();
        fiveBitsOfQuality();
        noOverflowOfSingleDoubleCounter();
        counterIsInvalidAlone();
        noSuchPoint();
        addressesInObjects();
        freezesModulo32();
        millisecondsOfTheMinute();
        minuteBeforeTheClockIsSet();
        lastTimeOfAll();
        Bench.finish();
    }

    private static Bench station(int sort, boolean timed) {
        Bench b = new Bench("a POINT of SORT " + sort);
        b.point(sort, 0x030201, 0, timed, 0);
        return b;
    }

    private static void refused(int sort, int quality, int... values) {
        Bench b = station(sort, false);
        for (int value : values) {
            b.change(0, value, quality, -1);
        }
        b.told(0, 4, 0);
        b.told(0, 5, 0);
        b.count(8, 0);
    }

    /** An EVENT (but of a COUNTER) and a reading show the same bytes behind the ADDRESS. */
    private static void shown(int sort, int value, int quality, int... bytes) {
        Bench b = station(sort, false);
        b.started();
        b.change(0, value, quality, value == 0 && quality == 0 ? 0 : 1);
        b.told(0, 4, value);
        b.told(0, 5, quality);
        int sent = b.read(3);
        b.due("one EVENT, but of a COUNTER", sent == (sort == COUNTER || value == 0 && quality == 0 ? 0 : 1));
        if (sent == 1) {
            b.outIs(Bench.data(0, 0, Bench.join(new int[] {TYPES[sort], 1, 3, 0, 1, 0, 1, 2, 3}, bytes)));
        }
        b.i(102, 1, 5, 9, 1, 0, 1, 2, 3);
        b.outIs(Bench.data(sent, 1, Bench.join(new int[] {TYPES[sort], 1, 5, 9, 1, 0, 1, 2, 3}, bytes)));
    }

    private static void valuesAndQualitiesAreZeroAtFirst() {
        int[] bytes = {1, 1, 2, 3, 3, 5, 5};
        for (int sort = 0; sort < 7; sort++) {
            shown(sort, 0, 0, new int[bytes[sort]]);
        }
    }

    private static void singleValues() {
        refused(SINGLE, 0, LEAST, -1, 2, MOST);
        shown(SINGLE, 1, 0, 1);
        shown(SINGLE, 0, 16, 128);
    }

    private static void doubleValues() {
        refused(DOUBLE, 0, LEAST, -1, 4, MOST);
        for (int value = 1; value <= 3; value++) {
            shown(DOUBLE, value, 0, value);
        }
        shown(DOUBLE, 0, 16, 128);
    }

    private static void stepValues() {
        refused(STEP, 0, LEAST, -65, 64, MOST);
        shown(STEP, -64, 0, 64, 0);
        shown(STEP, -1, 0, 127, 0);
        shown(STEP, 63, 0, 63, 0);
    }

    private static void normalValues() {
        twoByteValues(NORMAL);
    }

    private static void scaledValues() {
        twoByteValues(SCALED);
    }

    private static void twoByteValues(int sort) {
        refused(sort, 0, LEAST, -32769, 32768, MOST);
        shown(sort, -32768, 0, 0, 128, 0);
        shown(sort, -1, 0, 255, 255, 0);
        shown(sort, 32767, 0, 255, 127, 0);
    }

    /** The infinite ones are numbers; what lies beyond them is none. */
    private static void floatValues() {
        refused(FLOAT, 0, 0x7F800001, 0x7FC00000, MOST, 0xFF800001, 0xFFC00000, -1);
        shown(FLOAT, 0x7F7FFFFF, 0, 255, 255, 127, 127, 0);
        shown(FLOAT, 0x7F800000, 0, 0, 0, 128, 127, 0);
        shown(FLOAT, 0xFF7FFFFF, 0, 255, 255, 127, 255, 0);
        shown(FLOAT, 0xFF800000, 0, 0, 0, 128, 255, 0);
        shown(FLOAT, LEAST, 0, 0, 0, 0, 128, 0);
        shown(FLOAT, 1, 0, 1, 0, 0, 0, 0);
    }

    private static void counterValues() {
        shown(COUNTER, LEAST, 0, 0, 0, 0, 128, 0);
        shown(COUNTER, -1, 0, 255, 255, 255, 255, 0);
        shown(COUNTER, MOST, 0, 255, 255, 255, 127, 0);
    }

    private static void fiveBitsOfQuality() {
        int[] notOfAny = {LEAST, -1, 32, 48, 64, 128, 256, MOST};
        for (int sort = 0; sort < 7; sort++) {
            for (int quality : notOfAny) {
                refused(sort, quality, 0, 1);
            }
        }
        int[] bits = {1, 2, 4, 8, 16, 31};
        int[] bytes = {1, 16, 32, 64, 128, 241};
        for (int i = 0; i < bits.length; i++) {
            shown(STEP, -1, bits[i], 127, bytes[i]);
            shown(NORMAL, -1, bits[i], 255, 255, bytes[i]);
            shown(SCALED, -1, bits[i], 255, 255, bytes[i]);
            shown(FLOAT, 0x3F800000, bits[i], 0, 0, 128, 63, bytes[i]);
        }
        for (int i = 1; i < 5; i++) {
            shown(SINGLE, 1, bits[i], bytes[i] | 1);
            shown(DOUBLE, 3, bits[i], bytes[i] | 3);
        }
        shown(SINGLE, 1, 30, 241);
        shown(DOUBLE, 2, 30, 242);
    }

    private static void noOverflowOfSingleDoubleCounter() {
        for (int sort : new int[] {SINGLE, DOUBLE, COUNTER}) {
            for (int quality = 1; quality < 32; quality += 2) {
                refused(sort, quality, 0, 1);
            }
        }
    }

    private static void counterIsInvalidAlone() {
        for (int quality = 1; quality < 32; quality++) {
            if (quality != 16) {
                refused(COUNTER, quality, 0, 7);
            }
        }
        shown(COUNTER, 7, 16, 7, 0, 0, 0, 128);
    }

    private static void noSuchPoint() {
        Bench b = new Bench("change of no such POINT");
        b.change(0, 0, 0, -1);
        b.point(0, 5, 0, false, 0);
        for (int point : new int[] {LEAST, -1, 1, 23, 24, MOST}) {
            b.change(point, 0, 0, -1);
            b.change(point, 1, 0, -1);
        }
        b.told(0, 4, 0);
    }

    private static void addressesInObjects() {
        for (int address : new int[] {1, 255, 256, 65535, 65536, 16777215}) {
            Bench b = new Bench("ADDRESS " + address);
            b.point(0, address, 0, false, 0);
            b.command(0, address == 1 ? 2 : address - 1, -1, false, 0);
            b.started();
            b.change(0, 1, 0, 1);
            int low = address & 255;
            int middle = address >> 8 & 255;
            int high = address >> 16;
            b.outIs(Bench.data(0, 0, 1, 1, 3, 0, 1, 0, low, middle, high, 1));
            b.s(1);
            b.i(102, 1, 5, 0, 1, 0, low, middle, high);
            b.outIs(Bench.data(1, 1, 1, 1, 5, 0, 1, 0, low, middle, high, 1));
            b.s(2);
            b.same(47 | 64, 102, 1, 5, 0, 1, 0, low ^ 128, middle, high);
            b.same(47 | 64, 102, 1, 5, 0, 1, 0, low, middle ^ 128, high);
            b.same(47 | 64, 102, 1, 5, 0, 1, 0, low, middle, high ^ 128);
        }
    }

    /** Read behind 0, 1, 30, 31, 32, 33 and 64 of them. */
    private static void freezesModulo32() {
        Bench b = station(COUNTER, true);
        b.started();
        b.change(0, 5, 16, 1);
        int sent = 0;
        for (int freezes = 0; freezes <= 64; freezes++) {
            if (freezes <= 1 || freezes >= 30 && freezes <= 33 || freezes == 64) {
                b.skipOut();
                b.i(102, 1, 5, 0, 1, 0, 1, 2, 3);
                b.outIs(Bench.data(sent, b.read(5), 15, 1, 5, 0, 1, 0, 1, 2, 3, 5, 0, 0, 0, 128 | freezes % 32));
                sent++;
            }
            b.count(11, freezes);
            b.i(101, 1, 6, 0, 1, 0, 0, 0, 0, 64 | 5);
            sent += 2;
            b.s(sent);
        }
    }

    private static int[] timed(int number, int ack, int value, int... time) {
        return Bench.data(number, ack, Bench.join(new int[] {30, 1, 3, 0, 1, 0, 1, 2, 3, value}, time));
    }

    private static void millisecondsOfTheMinute() {
        Bench b = station(SINGLE, true);
        b.set(5, 1000, 200);
        b.started();
        b.change(0, 1, 0, 1);
        b.s(1);
        b.tick(599, 2);
        b.change(0, 0, 0, 1);
        b.s(2);
        b.tick(1, 2);
        b.change(0, 1, 0, 1);
        // 59900 milliseconds of minute 0, then none of minute 1
        b.outIs(timed(0, 0, 1, 0, 0, 128, 0, 1, 1, 0), timed(1, 0, 0, 252, 233, 128, 0, 1, 1, 0),
            timed(2, 0, 1, 0, 0, 129, 0, 1, 1, 0));
    }

    /** 128 with every minute until then, whatever was refused or only tried; none from then on. */
    private static void minuteBeforeTheClockIsSet() {
        Bench b = station(SINGLE, true);
        b.started();
        b.i(103, 1, 6 | 128, 0, 1, 0, 0, 0, 0, 0, 0, 59, 0, 1, 1, 0);
        b.i(103, 1, 6, 0, 1, 0, 0, 0, 0, 0, 0, 60, 0, 1, 1, 0);
        b.skipOut();
        b.change(0, 1, 0, 1);
        b.outIs(timed(2, 2, 1, 0, 0, 128, 0, 1, 1, 0));
        b.i(103, 1, 6, 0, 1, 0, 0, 0, 0, 0, 0, 0, 0, 1, 1, 0);
        b.skipOut();
        b.change(0, 0, 0, 1);
        b.outIs(timed(4, 3, 0, 0, 0, 0, 0, 1, 1, 0));
        b.close(1);
        b.open(1);
        b.u(Bench.START);
        b.outIs(Bench.frameOf(Bench.START_ANSWER), timed(0, 0, 1, 0, 0, 128, 0, 1, 1, 0),
            timed(1, 0, 0, 0, 0, 0, 0, 1, 1, 0));
    }

    private static void lastTimeOfAll() {
        Bench b = station(SINGLE, true);
        b.started();
        b.i(103, 1, 6, 0, 1, 0, 0, 0, 0, 95, 234, 59, 23, 31, 12, 99);
        b.skipOut();
        b.change(0, 1, 0, 1);
        b.outIs(timed(1, 1, 1, 95, 234, 59, 23, 31, 12, 99));
        b.tick(1, 2);
        b.change(0, 0, 0, 1);
        b.outIs(timed(2, 1, 0, 99, 0, 0, 0, 1, 1, 0));
    }
}
