/**
 * A controlled station for telecontrol over a stream of bytes. The words in
 * capitals, and what each call promises, stand in the project's document.
 */
public final class ControlledStation {
    public static final int NONE = -1, BAD = -1, STATE = -2, FULL = -3;

    private static final int NOTHING_TOLD = 0;

    private static final int CLOSED = 0, STOPPED = 1, STARTED = 2, STOPPING = 3;

    private static final int BY_CALL = 1, BY_BYTES = 2, BY_NUMBERS = 3, BY_TIME = 4;
    private static final int BY_STATE = 5, BY_OUT = 6, BY_ANSWERS = 7;

    private static final int STATION = 0, K = 1, W = 2, T1 = 3, T2 = 4, T3 = 5, S = 6;
    private static final int SETTINGS = 7;
    private static final int[] LEAST = {0, 1, 1, 1, 1, 1, 1};
    private static final int[] MOST = {65534, 12, 12, 1000, 1000, 1000, 1000};

    private static final int MOST_POINTS = 24, MOST_COMMANDS = 12, MOST_GROUP = 16;
    private static final int MOST_ADDRESS = 16777215;
    private static final int MOST_WAITING_EVENTS = 40, MOST_ANSWERS = 60, MOST_UNACKNOWLEDGED = 12;
    private static final int MOST_OBJECTS = 6, MOST_TICKS = 1000, OUT_BYTES = 4096;

    private static final int FRAME_START = 104, LEAST_LENGTH = 4, MOST_LENGTH = 253;
    private static final int CONTROL_BYTES = 4, FRAME_HEAD = 6, MOST_REST = 249;
    private static final int NUMBERS_MASK = 32767;

    private static final int S_CONTROL = 1;
    private static final int START = 7, START_ANSWER = 11, STOP = 19, STOP_ANSWER = 35;
    private static final int TEST = 67, TEST_ANSWER = 131;

    private static final int SINGLE = 0, DOUBLE = 1, SCALED = 4, FLOAT = 5, COUNTER = 6, SORTS = 7;
    private static final int[] TYPES = {1, 3, 5, 9, 11, 13, 15};
    private static final int[] TIMED_TYPES = {30, 31, 32, 34, 35, 36, 37};
    private static final int[] LEAST_VALUES =
        {0, 0, -64, -32768, -32768, -2147483648, -2147483648};
    private static final int[] MOST_VALUES =
        {1, 3, 63, 32767, 32767, 2147483647, 2147483647};
    private static final int[] QUALITIES = {30, 30, 31, 31, 31, 31, 16};
    // SINGLE and DOUBLE have no bytes of their own: their VALUE stands in the byte of the QUALITY.
    private static final int[] VALUE_BYTES = {0, 0, 1, 2, 2, 4, 4};
    private static final long[] VALUE_MASKS = {0L, 0L, 127L, 65535L, 65535L, 4294967295L, 4294967295L};
    private static final int OV = 1, IV = 16, ABOVE_OV = 30;
    private static final int INFINITY_BITS = 2139095040, ALL_BUT_SIGN = 2147483647;

    private static final int COMMAND_SORTS = 3;
    private static final int ORDER_SINGLE = 45, ORDER_DOUBLE = 46, ORDER_SET = 49;
    private static final int[] COMMAND_TYPES = {ORDER_SINGLE, ORDER_DOUBLE, ORDER_SET};
    private static final int[] COMMAND_POINTS = {SINGLE, DOUBLE, SCALED};
    private static final int[] COMMAND_BYTES = {1, 1, 3};

    private static final int INTERROGATE = 100, COUNT = 101, READ = 102, SET_CLOCK = 103, TRY = 104;
    private static final int EVERY_STATION = 65535, TRY_NUMBER = 21930;
    private static final int REST_HEAD = 9, CAUSE_MASK = 63, DENIED = 64, T = 128, SELECT = 128;
    private static final int SPONTANEOUS = 3, REQUESTED = 5, ACTIVATE = 6, CONFIRMED = 7;
    private static final int DEACTIVATE = 8, DEACTIVATED = 9, ENDED = 10, BY_COMMAND = 11;
    private static final int ALL_POINTS = 20, LAST_GROUP = 36, COUNTERS_CAUSE = 37, COUNTERS_ASKED = 5;
    private static final int NO_TYPE = 44, NO_CAUSE = 45, NO_STATION = 46, NO_ADDRESS = 47;
    private static final int NO_FAULT = 0, PASSED_BY = -1;

    private static final int[] DAYS = {31, 28, 31, 30, 31, 30, 31, 31, 30, 31, 30, 31};
    private static final int TICK_MILLISECONDS = 100, MINUTE_MILLISECONDS = 60000, NEVER_SET = 128;

    private final int[] settings = {1, 12, 8, 150, 100, 200, 300};
    private final PointTable points = new PointTable();
    private final Command[] commands = new Command[MOST_COMMANDS];
    private int commandsMade;
    private final Selection selection = new Selection();
    private final Calendar calendar = new Calendar();
    private final EventQueue events = new EventQueue();
    private final AnswerQueue answers = new AnswerQueue();
    private final Receiver receiver = new Receiver();
    private final SentFrames sent = new SentFrames();
    private final OutBytes sending = new OutBytes();
    private int link = CLOSED;
    private int reason;
    private int now;
    private int latestAt;
    private int testAt;
    private boolean testWaits;
    private int passedBy;
    private int freezes;

    public ControlledStation() {
    }

    public int set(int what, int v) {
        if (what < 0 || what >= SETTINGS || v < LEAST[what] || v > MOST[what]) {
            return BAD;
        }
        if (link != CLOSED) {
            return STATE;
        }
        int was = settings[what];
        settings[what] = v;
        return was;
    }

    public int point(int sort, int address, int group, boolean timed) {
        if (sort < 0 || sort >= SORTS || group < 0 || group > MOST_GROUP || !isFreeAddress(address)) {
            return BAD;
        }
        if (points.size >= MOST_POINTS) {
            return FULL;
        }
        points.add(new Point(sort, address, group, timed));
        return points.size - 1;
    }

    public int command(int sort, int address, int point, boolean selected) {
        if (sort < 0 || sort >= COMMAND_SORTS || !isFreeAddress(address)) {
            return BAD;
        }
        Point target = points.at(point);
        if (point != NONE && (target == null || target.sort != COMMAND_POINTS[sort])) {
            return BAD;
        }
        if (commandsMade >= MOST_COMMANDS) {
            return FULL;
        }
        commands[commandsMade] = new Command(sort, address, target, selected);
        commandsMade++;
        return commandsMade - 1;
    }

    public int change(int point, int value, int quality) {
        Point changed = points.at(point);
        if (changed == null || !changed.fits(value, quality)) {
            return BAD;
        }
        if (changed.value == value && changed.quality == quality) {
            return 0;
        }
        boolean isEvent = changed.sort != COUNTER;
        if (isEvent && events.waiting() >= MOST_WAITING_EVENTS) {
            return FULL;
        }
        changed.value = value;
        changed.quality = quality;
        if (isEvent) {
            events.add(changed, changed.object(value, freezes), calendar.time());
        }
        sendWaiting();
        return 1;
    }

    public int open() {
        if (link != CLOSED) {
            return STATE;
        }
        link = STOPPED;
        sending.clear();
        sent.restart();
        receiver.restart();
        latestAt = now;
        return 1;
    }

    public int close() {
        if (link == CLOSED) {
            return STATE;
        }
        shut(BY_CALL);
        return 1;
    }

    public int come(int n, long v) {
        if (n < 1 || n > 8) {
            return BAD;
        }
        if (link == CLOSED) {
            return STATE;
        }
        int taken = 0;
        for (int i = n - 1; i >= 0 && link != CLOSED; i--) {
            int got = receiver.accept((int) (v >> (8 * i)) & 255);
            if (got == Receiver.WRONG) {
                shut(BY_BYTES);
            } else if (got == Receiver.WHOLE) {
                if (acceptFrame()) {
                    takeRest(receiver.rest);
                }
                behindFrame();
                taken += link == CLOSED ? 0 : 1;
            }
        }
        return taken;
    }

    public int tick(int n) {
        if (n < 0 || n > MOST_TICKS) {
            return BAD;
        }
        for (int i = 0; i < n; i++) {
            calendar.goOn();
            now++;
            if (link != CLOSED) {
                runTimers();
                sendWaiting();
            }
        }
        return link;
    }

    public int out(int i) {
        if (i < 0 || i >= sending.length) {
            return BAD;
        }
        return sending.at(i);
    }

    public int take(int n) {
        if (n < 0 || n > sending.length) {
            return BAD;
        }
        sending.dropFirst(n);
        return sending.length;
    }

    // The one call that refuses by 0 ("0 also: BAD"): a VALUE may well be -1.
    public int told(int point, int what) {
        Point asked = points.at(point);
        if (asked == null) {
            return NOTHING_TOLD;
        }
        switch (what) {
            case 0: return asked.sort;
            case 1: return asked.address;
            case 2: return asked.group;
            case 3: return asked.timed ? 1 : 0;
            case 4: return asked.value;
            case 5: return asked.quality;
            case 6: return asked.frozen;
            default: return NOTHING_TOLD;
        }
    }

    public int ordered(int command, int what) {
        if (command < 0 || command >= commandsMade || command >= MOST_COMMANDS) {
            return BAD;
        }
        Command asked = commands[command];
        if (asked == null) {
            return BAD;
        }
        boolean isSelected = selection.isOf(asked);
        switch (what) {
            case 0: return isSelected ? 1 : 0;
            case 1: return isSelected ? selection.ticksLeft : 0;
            case 2: return asked.carriedOut;
            default: return BAD;
        }
    }

    public int clock(int what) {
        switch (what) {
            case 0: return calendar.millisecond;
            case 1: return calendar.minute;
            case 2: return calendar.hour;
            case 3: return calendar.day;
            case 4: return calendar.month;
            case 5: return calendar.year;
            case 6: return calendar.wasSet ? 1 : 0;
            default: return BAD;
        }
    }

    public int count(int what) {
        switch (what) {
            case 0: return link;
            case 1: return reason;
            case 2: return sending.length;
            case 3: return sent.number;
            case 4: return sent.unacknowledged;
            case 5: return receiver.came;
            case 6: return receiver.untold;
            case 7: return answers.size;
            case 8: return events.waiting();
            case 9: return testWaits ? 1 : 0;
            case 10: return passedBy;
            case 11: return freezes;
            case 12: return points.size;
            case 13: return commandsMade;
            default: return BAD;
        }
    }

    private boolean isFreeAddress(int address) {
        return address >= 1 && address <= MOST_ADDRESS
            && points.withAddress(address) == null && commandWith(address) == null;
    }

    private Command commandWith(int address) {
        for (int i = 0; i < commandsMade && i < MOST_COMMANDS; i++) {
            Command one = commands[i];
            if (one != null && one.address == address) {
                return one;
            }
        }
        return null;
    }

    private void shut(int why) {
        link = CLOSED;
        reason = why;
        answers.clear();
        selection.end();
        events.waitAgain();
        sent.forget();
        receiver.forget();
        testWaits = false;
    }

    private void runTimers() {
        boolean isLate = sent.unacknowledged > 0 && isOver(sent.eldestAt(), settings[T1]);
        boolean isTestLate = testWaits && isOver(testAt, settings[T1]);
        if (isLate || isTestLate) {
            shut(BY_TIME);
            return;
        }
        if (receiver.untold > 0 && isOver(receiver.firstUntoldAt, settings[T2])) {
            sendAck();
        }
        if (link != CLOSED && !testWaits && isOver(latestAt, settings[T3])) {
            sendTest();
        }
        selection.goOn();
    }

    private boolean isOver(int since, int ticks) {
        return now - since >= ticks;
    }

    private void sendTest() {
        if (sendFrame(TEST, null)) {
            testWaits = true;
            testAt = now;
            latestAt = now;
        }
    }

    private void sendAck() {
        if (sendFrame(S_CONTROL | receiver.ackToTell() << 17, null)) {
            receiver.untold = 0;
        }
    }

    private boolean sendData(Message rest, boolean isEvent) {
        int number = (sent.number & NUMBERS_MASK) << 1;
        if (!sendFrame(number | receiver.ackToTell() << 17, rest)) {
            return false;
        }
        receiver.untold = 0;
        sent.add(now, isEvent);
        return true;
    }

    private boolean sendFrame(int control, Message rest) {
        int restBytes = rest == null ? 0 : rest.length;
        if (sending.length + FRAME_HEAD + restBytes > OUT_BYTES) {
            shut(BY_OUT);
            return false;
        }
        sending.add(FRAME_START);
        sending.add(CONTROL_BYTES + restBytes);
        for (int i = 0; i < CONTROL_BYTES; i++) {
            sending.add(control >> (8 * i));
        }
        for (int i = 0; i < restBytes; i++) {
            sending.add(rest.at(i));
        }
        return true;
    }

    // What could not be sent stays where it is: an EVENT must wait on behind a break.
    private void sendWaiting() {
        for (int i = 0; i < MOST_UNACKNOWLEDGED && link == STARTED; i++) {
            if (sent.unacknowledged >= settings[K]) {
                return;
            }
            if (answers.size > 0) {
                if (sendData(answers.first(), false)) {
                    answers.dropFirst();
                }
            } else if (events.waiting() > 0) {
                if (sendData(events.next(settings[STATION]), true)) {
                    events.nextWasSent();
                }
            } else {
                return;
            }
        }
    }

    /** Whether the FRAME has a rest that is to be taken. */
    private boolean acceptFrame() {
        latestAt = now;
        int first = receiver.control & 255;
        if ((first & 1) == 0) {
            return acceptData();
        }
        if (first != S_CONTROL) {
            controlCame(first);
        } else if (!acknowledge(receiver.ack())) {
            shut(BY_NUMBERS);
        }
        return false;
    }

    private void behindFrame() {
        if (link == STOPPING && sent.unacknowledged == 0) {
            link = STOPPED;
            sendFrame(STOP_ANSWER, null);
        }
        sendWaiting();
        if (link != CLOSED && receiver.untold >= settings[W]) {
            sendAck();
        }
    }

    private boolean acknowledge(int ack) {
        int more = sent.newlyAcknowledged(ack);
        if (more > sent.unacknowledged) {
            return false;
        }
        for (int i = 0; i < more; i++) {
            if (sent.dropEldest()) {
                events.dropEldest();
            }
        }
        return true;
    }

    private void controlCame(int control) {
        switch (control) {
            case START:
                link = STARTED;
                sendFrame(START_ANSWER, null);
                break;
            case STOP:
                stopCame();
                break;
            case TEST:
                sendFrame(TEST_ANSWER, null);
                break;
            case TEST_ANSWER:
                testWaits = false;
                break;
            default:
                break;
        }
    }

    private void stopCame() {
        if (link == STARTED) {
            link = STOPPING;
            if (receiver.untold > 0) {
                sendAck();
            }
        } else if (link == STOPPED) {
            sendFrame(STOP_ANSWER, null);
        }
    }

    private boolean acceptData() {
        if (link != STARTED && link != STOPPING) {
            shut(BY_STATE);
            return false;
        }
        if (receiver.number() != receiver.ackToTell() || !acknowledge(receiver.ack())) {
            shut(BY_NUMBERS);
            return false;
        }
        receiver.countData(now);
        return true;
    }

    private void takeRest(Message rest) {
        int type = rest.at(0);
        int cause = rest.at(2) & CAUSE_MASK;
        int fault = faultOf(rest, type, cause);
        if (fault == PASSED_BY) {
            passedBy++;
        } else if (fault != NO_FAULT) {
            answerSame(fault | DENIED);
        } else if (type == READ) {
            readCame(points.withAddress(rest.address()));
        } else if (type == INTERROGATE) {
            interrogationCame(cause, rest.at(REST_HEAD));
        } else if (type == COUNT) {
            countersOrderCame(rest.at(REST_HEAD));
        } else if (type == SET_CLOCK) {
            clockOrderCame(rest.number(REST_HEAD, 7));
        } else if (type == TRY) {
            answerSame(rest.number(REST_HEAD, 2) == TRY_NUMBER ? CONFIRMED : CONFIRMED | DENIED);
        } else {
            commandCame(commandWith(rest.address()), cause);
        }
        if (answers.overflown) {
            shut(BY_ANSWERS);
        }
    }

    private int faultOf(Message rest, int type, int cause) {
        if (rest.length < REST_HEAD) {
            return PASSED_BY;
        }
        if (restLength(type) == 0) {
            return NO_TYPE;
        }
        if (!isCauseOf(type, cause)) {
            return NO_CAUSE;
        }
        long station = rest.number(4, 2);
        if (station != settings[STATION] && (type < INTERROGATE || station != EVERY_STATION)) {
            return NO_STATION;
        }
        if (rest.length != restLength(type) || rest.at(1) != 1) {
            return PASSED_BY;
        }
        return isAddressOf(type, rest.address()) ? NO_FAULT : NO_ADDRESS;
    }

    /** How long a rest of this TYPE is, 0 for a TYPE that is not told. */
    private static int restLength(int type) {
        switch (type) {
            case READ: return REST_HEAD;
            case ORDER_SINGLE: case ORDER_DOUBLE: case INTERROGATE: case COUNT: return REST_HEAD + 1;
            case TRY: return REST_HEAD + 2;
            case ORDER_SET: return REST_HEAD + 3;
            case SET_CLOCK: return REST_HEAD + 7;
            default: return 0;
        }
    }

    private static boolean isCauseOf(int type, int cause) {
        if (type == READ) {
            return cause == REQUESTED;
        }
        return cause == ACTIVATE || cause == DEACTIVATE && type <= INTERROGATE;
    }

    private boolean isAddressOf(int type, int address) {
        if (type == READ) {
            return points.withAddress(address) != null;
        }
        if (type >= INTERROGATE) {
            return address == 0;
        }
        Command found = commandWith(address);
        return found != null && COMMAND_TYPES[found.sort] == type;
    }

    private void commandCame(Command command, int cause) {
        if (command == null) {
            return;
        }
        boolean isTrial = receiver.isTrial();
        if (cause == DEACTIVATE) {
            boolean ends = selection.isOf(command);
            if (ends && !isTrial) {
                selection.end();
            }
            answerSame(ends ? DEACTIVATED : DEACTIVATED | DENIED);
            return;
        }
        int bytes = COMMAND_BYTES[command.sort];
        int data = (int) receiver.rest.number(REST_HEAD, bytes);
        int select = SELECT << (8 * (bytes - 1));
        if (!command.isOrder(data)) {
            answerSame(CONFIRMED | DENIED);
        } else if ((data & select) != 0) {
            selectCame(command, data & ~select, isTrial);
        } else if (command.mustBeSelected && !endSelection(command, data, isTrial)) {
            answerSame(CONFIRMED | DENIED);
        } else {
            carryOut(command, data, isTrial);
        }
    }

    private void selectCame(Command command, int data, boolean isTrial) {
        if (!command.mustBeSelected || selection.isOfSome()) {
            answerSame(CONFIRMED | DENIED);
            return;
        }
        if (answerSame(CONFIRMED) && !isTrial) {
            selection.begin(command, data, receiver.originator(), settings[S]);
        }
    }

    /** Whether the COMMAND was SELECTED just so, which ends in any case. */
    private boolean endSelection(Command command, int data, boolean isTrial) {
        if (!selection.isOf(command)) {
            return false;
        }
        boolean isSame = selection.data == data && selection.originator == receiver.originator();
        if (!isTrial) {
            selection.end();
        }
        return isSame;
    }

    private void carryOut(Command command, int data, boolean isTrial) {
        if (!answerSame(CONFIRMED)) {
            return;
        }
        if (!isTrial) {
            command.carriedOut++;
            Point target = command.target;
            if (target != null) {
                target.value = command.valueOf(data);
                answerObject(target, BY_COMMAND);
            }
        }
        answerSame(ENDED);
    }

    private void readCame(Point asked) {
        if (asked != null && !receiver.isTrial()) {
            answerObject(asked, REQUESTED);
        }
    }

    private void interrogationCame(int cause, int asked) {
        if (cause == DEACTIVATE) {
            answerSame(DEACTIVATED | DENIED);
        } else if (asked < ALL_POINTS || asked > LAST_GROUP) {
            answerSame(CONFIRMED | DENIED);
        } else {
            answerSame(CONFIRMED);
            if (!receiver.isTrial()) {
                answerPoints(asked);
            }
            answerSame(ENDED);
        }
    }

    private void countersOrderCame(int asked) {
        if ((asked & 63) != COUNTERS_ASKED) {
            answerSame(CONFIRMED | DENIED);
        } else if (answerSame(CONFIRMED)) {
            if (!receiver.isTrial()) {
                orderCounters(asked >> 6);
            }
            answerSame(ENDED);
        }
    }

    private void orderCounters(int order) {
        if (order == 0) {
            answerPoints(COUNTERS_CAUSE);
            return;
        }
        if (order != 3) {
            points.freezeCounters();
            freezes++;
        }
        if (order != 1) {
            points.resetCounters();
        }
    }

    private void clockOrderCame(long time) {
        if (!Calendar.isTime(time)) {
            answerSame(CONFIRMED | DENIED);
        } else if (answerSame(CONFIRMED) && !receiver.isTrial()) {
            calendar.become(time);
        }
    }

    /** Whether there was room for it; if not, nothing that is told behind it may be done. */
    private boolean answerSame(int cause) {
        Message answer = answers.next();
        answer.copy(receiver.rest);
        answer.replace(2, cause | receiver.rest.at(2) & T);
        return !answers.overflown;
    }

    private void answerObject(Point shown, int cause) {
        Message answer = answers.next();
        answer.add(objectHead(TYPES[shown.sort], cause, receiver.originator(), settings[STATION]), 6);
        answer.add(shown.object(shown.value, freezes), shown.objectBytes());
    }

    /** The six bytes ahead of one OBJECT, as one number. */
    private static long objectHead(int type, int cause, int originator, int station) {
        return type | 1 << 8 | cause << 16 | (long) originator << 24 | (long) station << 32;
    }

    private void answerPoints(int cause) {
        Message answer = null;
        int sort = NONE;
        int objects = 0;
        for (int i = 0; i < points.size; i++) {
            Point shown = points.atPlace(i);
            if (shown == null || !shown.isAskedBy(cause)) {
                continue;
            }
            if (answer == null || shown.sort != sort || objects >= MOST_OBJECTS) {
                answer = answers.next();
                answer.add(objectHead(TYPES[shown.sort], cause, 0, settings[STATION]), 6);
                sort = shown.sort;
                objects = 0;
            }
            int value = sort == COUNTER ? shown.frozen : shown.value;
            answer.add(shown.object(value, freezes), shown.objectBytes());
            objects++;
            answer.replace(1, objects);
        }
    }

    private static final class Point {
        final int sort;
        final int address;
        final int group;
        final boolean timed;
        int value;
        int quality;
        int frozen;

        Point(int sort, int address, int group, boolean timed) {
            this.sort = sort;
            this.address = address;
            this.group = group;
            this.timed = timed;
        }

        boolean fits(int newValue, int newQuality) {
            if (newValue < LEAST_VALUES[sort] || newValue > MOST_VALUES[sort]) {
                return false;
            }
            boolean isNoNumber = sort == FLOAT && (newValue & ALL_BUT_SIGN) > INFINITY_BITS;
            return !isNoNumber && (newQuality & ~QUALITIES[sort]) == 0;
        }

        boolean isAskedBy(int cause) {
            if (sort == COUNTER || cause == COUNTERS_CAUSE) {
                return sort == COUNTER && cause == COUNTERS_CAUSE;
            }
            return cause == ALL_POINTS || group == cause - ALL_POINTS;
        }

        int objectBytes() {
            return 3 + VALUE_BYTES[sort] + 1;
        }

        /** The OBJECT as one number: eight bytes at most, and the lowest stands first. */
        long object(int shownValue, int freezes) {
            int last = (quality & ABOVE_OV) << 3;
            if (sort == COUNTER) {
                last = (quality & IV) << 3 | freezes & 31;
            } else if (sort == SINGLE || sort == DOUBLE) {
                last |= shownValue;
            } else {
                last |= quality & OV;
            }
            long body = shownValue & VALUE_MASKS[sort] | (long) last << (8 * VALUE_BYTES[sort]);
            return address | body << 24;
        }
    }

    private static final class PointTable {
        private final Point[] byNumber = new Point[MOST_POINTS];
        private final Point[] byAddress = new Point[MOST_POINTS];
        int size;

        void add(Point made) {
            if (size >= MOST_POINTS) {
                return;
            }
            byNumber[size] = made;
            int place = size;
            for (int i = size - 1; i >= 0 && byAddress[i] != null; i--) {
                if (byAddress[i].address < made.address) {
                    break;
                }
                byAddress[i + 1] = byAddress[i];
                place = i;
            }
            byAddress[place] = made;
            size++;
        }

        Point at(int number) {
            return number < 0 || number >= size || number >= MOST_POINTS ? null : byNumber[number];
        }

        Point atPlace(int place) {
            return place < 0 || place >= size || place >= MOST_POINTS ? null : byAddress[place];
        }

        Point withAddress(int address) {
            for (int i = 0; i < size && i < MOST_POINTS; i++) {
                Point one = byNumber[i];
                if (one != null && one.address == address) {
                    return one;
                }
            }
            return null;
        }

        void freezeCounters() {
            for (int i = 0; i < size && i < MOST_POINTS; i++) {
                Point one = byNumber[i];
                if (one != null && one.sort == COUNTER) {
                    one.frozen = one.value;
                }
            }
        }

        void resetCounters() {
            for (int i = 0; i < size && i < MOST_POINTS; i++) {
                Point one = byNumber[i];
                if (one != null && one.sort == COUNTER) {
                    one.value = 0;
                }
            }
        }
    }

    private static final class Command {
        final int sort;
        final int address;
        final Point target;
        final boolean mustBeSelected;
        int carriedOut;

        Command(int sort, int address, Point target, boolean mustBeSelected) {
            this.sort = sort;
            this.address = address;
            this.target = target;
            this.mustBeSelected = mustBeSelected;
        }

        boolean isOrder(int data) {
            switch (sort) {
                case 0: return (data & 2) == 0;
                case 1: return (data & 3) == 1 || (data & 3) == 2;
                default: return true;
            }
        }

        int valueOf(int data) {
            switch (sort) {
                case 0: return data & 1;
                case 1: return data & 3;
                default: return (short) data;
            }
        }
    }

    private static final class Selection {
        private Command command;
        int data;
        int originator;
        int ticksLeft;

        void begin(Command selected, int itsData, int itsOriginator, int ticks) {
            command = selected;
            data = itsData;
            originator = itsOriginator;
            ticksLeft = ticks;
        }

        void end() {
            command = null;
            ticksLeft = 0;
        }

        boolean isOfSome() {
            return command != null;
        }

        boolean isOf(Command asked) {
            return command != null && command == asked;
        }

        void goOn() {
            if (command != null) {
                ticksLeft--;
                if (ticksLeft <= 0) {
                    command = null;
                }
            }
        }
    }

    private static final class Calendar {
        int millisecond;
        int minute;
        int hour;
        int day = 1;
        int month = 1;
        int year;
        boolean wasSet;

        void goOn() {
            millisecond += TICK_MILLISECONDS;
            if (millisecond < MINUTE_MILLISECONDS) {
                return;
            }
            millisecond -= MINUTE_MILLISECONDS;
            minute++;
            if (minute == 60) {
                minute = 0;
                hour++;
            }
            if (hour == 24) {
                hour = 0;
                day++;
            }
            if (day > daysOf(month, year)) {
                day = 1;
                month++;
            }
            if (month > 12) {
                month = 1;
                year = (year + 1) % 100;
            }
        }

        long time() {
            long date = day | month << 8 | year << 16;
            int shownMinute = wasSet ? minute : minute | NEVER_SET;
            return millisecond | (long) shownMinute << 16 | (long) hour << 24 | date << 32;
        }

        void become(long time) {
            millisecond = (int) time & 65535;
            minute = (int) (time >> 16) & 255;
            hour = (int) (time >> 24) & 255;
            day = (int) (time >> 32) & 255;
            month = (int) (time >> 40) & 255;
            year = (int) (time >> 48) & 255;
            wasSet = true;
        }

        static boolean isTime(long time) {
            int newDay = (int) (time >> 32) & 255;
            int newMonth = (int) (time >> 40) & 255;
            int newYear = (int) (time >> 48) & 255;
            return (time & 65535) < MINUTE_MILLISECONDS
                && (time >> 16 & 255) < 60 && (time >> 24 & 255) < 24
                && newYear < 100 && newDay >= 1 && newDay <= daysOf(newMonth, newYear);
        }

        private static int daysOf(int month, int year) {
            if (month < 1 || month > 12) {
                return 0;
            }
            return month == 2 && year % 4 == 0 ? 29 : DAYS[month - 1];
        }
    }

    /** The rest of an I FRAME. */
    private static final class Message {
        private final byte[] row = new byte[MOST_REST];
        int length;

        void clear() {
            length = 0;
        }

        void add(long number, int bytes) {
            for (int i = 0; i < bytes && length >= 0 && length < MOST_REST; i++) {
                row[length] = (byte) (number >> (8 * i));
                length++;
            }
        }

        void copy(Message other) {
            length = Math.max(0, Math.min(other.length, MOST_REST));
            System.arraycopy(other.row, 0, row, 0, length);
        }

        void replace(int i, int b) {
            if (i >= 0 && i < length && i < MOST_REST) {
                row[i] = (byte) b;
            }
        }

        int at(int i) {
            return i < 0 || i >= length || i >= MOST_REST ? 0 : row[i] & 255;
        }

        long number(int from, int bytes) {
            long number = 0;
            for (int i = bytes - 1; i >= 0; i--) {
                number = number << 8 | at(from + i);
            }
            return number;
        }

        int address() {
            return (int) number(6, 3);
        }
    }

    /** Those that wait to be sent; rows are made when first needed, and used again. */
    private static final class AnswerQueue {
        private final Message[] rows = new Message[MOST_ANSWERS];
        private final Message spare = new Message();
        private int start;
        int size;
        // One had no room: whoever asked for it does nothing more, and THE LINK CLOSES.
        boolean overflown;

        void clear() {
            start = 0;
            size = 0;
            overflown = false;
        }

        Message next() {
            if (size < 0 || size >= MOST_ANSWERS) {
                overflown = true;
                spare.clear();
                return spare;
            }
            int place = (start + size) % MOST_ANSWERS;
            if (rows[place] == null) {
                rows[place] = new Message();
            }
            size++;
            rows[place].clear();
            return rows[place];
        }

        Message first() {
            return size <= 0 || rows[start] == null ? spare : rows[start];
        }

        void dropFirst() {
            size--;
            start = size <= 0 ? 0 : (start + 1) % MOST_ANSWERS;
        }
    }

    /** EVENTS in their order: those that were sent and not acknowledged, then those that wait. */
    private static final class EventQueue {
        // K may send twelve of forty that wait, and then forty may wait again.
        private static final int MOST_KEPT = MOST_WAITING_EVENTS + MOST_UNACKNOWLEDGED;
        private final Point[] changed = new Point[MOST_KEPT];
        private final long[] objects = new long[MOST_KEPT];
        private final long[] times = new long[MOST_KEPT];
        private final Message message = new Message();
        private int start;
        private int size;
        private int sentOfThem;

        int waiting() {
            return size - sentOfThem;
        }

        void add(Point point, long object, long time) {
            if (size >= MOST_KEPT) {
                return;
            }
            int place = (start + size) % MOST_KEPT;
            changed[place] = point;
            objects[place] = object;
            times[place] = time;
            size++;
        }

        /** The rest of an I FRAME for the first that waits. */
        Message next(int station) {
            int place = (start + sentOfThem) % MOST_KEPT;
            Point point = changed[place];
            message.clear();
            if (point == null) {
                return message;
            }
            int type = point.timed ? TIMED_TYPES[point.sort] : TYPES[point.sort];
            message.add(objectHead(type, SPONTANEOUS, 0, station), 6);
            message.add(objects[place], point.objectBytes());
            if (point.timed) {
                message.add(times[place], 7);
            }
            return message;
        }

        void nextWasSent() {
            sentOfThem++;
        }

        void dropEldest() {
            if (sentOfThem > 0) {
                start = (start + 1) % MOST_KEPT;
                size--;
                sentOfThem--;
            }
        }

        void waitAgain() {
            sentOfThem = 0;
        }
    }

    /** The I FRAMES that were sent, and when, as long as they are not acknowledged. */
    private static final class SentFrames {
        private final int[] at = new int[MOST_UNACKNOWLEDGED];
        private final boolean[] ofEvent = new boolean[MOST_UNACKNOWLEDGED];
        private int start;
        int unacknowledged;
        int number;

        void restart() {
            number = 0;
            forget();
        }

        void forget() {
            start = 0;
            unacknowledged = 0;
        }

        void add(int now, boolean isEvent) {
            if (unacknowledged >= MOST_UNACKNOWLEDGED) {
                return;
            }
            int place = (start + unacknowledged) % MOST_UNACKNOWLEDGED;
            at[place] = now;
            ofEvent[place] = isEvent;
            unacknowledged++;
            number++;
        }

        int eldestAt() {
            return at[start];
        }

        int newlyAcknowledged(int ack) {
            return (ack - (number - unacknowledged)) & NUMBERS_MASK;
        }

        /** Whether it carried an EVENT. */
        boolean dropEldest() {
            boolean wasEvent = ofEvent[start];
            start = (start + 1) % MOST_UNACKNOWLEDGED;
            unacknowledged--;
            return wasEvent;
        }
    }

    /** Puts FRAMES together from bytes, and counts the I FRAMES among them. */
    private static final class Receiver {
        static final int MORE = 0, WRONG = 1, WHOLE = 2;
        final Message rest = new Message();
        int control;
        int came;
        int untold;
        int firstUntoldAt;
        private int bytes;
        private int length;

        void restart() {
            came = 0;
            forget();
        }

        void forget() {
            bytes = 0;
            untold = 0;
        }

        int accept(int b) {
            bytes++;
            if (bytes == 1) {
                return b == FRAME_START ? MORE : WRONG;
            }
            if (bytes == 2) {
                length = b;
                control = 0;
                rest.clear();
                return b >= LEAST_LENGTH && b <= MOST_LENGTH ? MORE : WRONG;
            }
            if (bytes <= FRAME_HEAD) {
                control |= b << (8 * (bytes - 3));
            } else {
                rest.add(b, 1);
            }
            if (bytes == FRAME_HEAD && !isControl()) {
                return WRONG;
            }
            if (bytes < length + 2) {
                return MORE;
            }
            bytes = 0;
            return WHOLE;
        }

        private boolean isControl() {
            int first = control & 255;
            boolean isEvenAck = (control >> 16 & 1) == 0;
            if ((first & 1) == 0) {
                return isEvenAck;
            }
            if (length != LEAST_LENGTH) {
                return false;
            }
            if (first == S_CONTROL) {
                return isEvenAck && (control >> 8 & 255) == 0;
            }
            switch (control) {
                case START: case START_ANSWER: case STOP: case STOP_ANSWER: case TEST: case TEST_ANSWER:
                    return true;
                default:
                    return false;
            }
        }

        int number() {
            return control >> 1 & NUMBERS_MASK;
        }

        int ack() {
            return control >> 17 & NUMBERS_MASK;
        }

        int ackToTell() {
            return came & NUMBERS_MASK;
        }

        void countData(int now) {
            if (untold == 0) {
                firstUntoldAt = now;
            }
            untold++;
            came++;
        }

        int originator() {
            return rest.at(3);
        }

        boolean isTrial() {
            return (rest.at(2) & T) != 0;
        }
    }

    /** THE OUT. */
    private static final class OutBytes {
        private final byte[] row = new byte[OUT_BYTES];
        private int start;
        int length;

        void clear() {
            start = 0;
            length = 0;
        }

        void add(int b) {
            if (length < OUT_BYTES) {
                row[(start + length) % OUT_BYTES] = (byte) b;
                length++;
            }
        }

        int at(int i) {
            return i < 0 || i >= length ? 0 : row[(start + i) % OUT_BYTES] & 255;
        }

        void dropFirst(int n) {
            if (n >= 0 && n <= length) {
                start = (start + n) % OUT_BYTES;
                length -= n;
            }
        }
    }
}
