/**
 * A broker behind sockets, as ../shared/DOC.md promises it.
 *
 * Everything lives in rows made at the start: those of a session at session times the row's length,
 * those of a subscription at its number in the ring (4 times the session, and s).
 */
public final class BrokerDesk {
    public static final int SHUT = 0, OPEN = 1, CLOSING = 2, REFUSED = -1;

    private static final int SESSIONS = 4, OWN_SUBSCRIPTIONS = 4, RING = 16;
    private static final int PLACES = 6, QUEUES = 3, QUEUE_ROOM = 8, ALL_QUEUES = QUEUES * QUEUE_ROOM;
    private static final int OUTPUT_ROOM = 240, ALL_OUTPUTS = SESSIONS * OUTPUT_ROOM;
    private static final int PAST_ROOM = 64, ALL_PASTS = SESSIONS * PAST_ROOM, COSTS = PAST_ROOM + 1;
    private static final int MESSAGE_ROOM = 200, ALL_MESSAGES = SESSIONS * MESSAGE_ROOM;
    private static final int CONTROL_ROOM = 16, ALL_CONTROLS = SESSIONS * CONTROL_ROOM;
    private static final int MASK_BYTES = 4, ALL_MASKS = SESSIONS * MASK_BYTES;

    private static final int MODES = 3, MOST_CREDIT = 5, ALL_HOLDS = RING * MOST_CREDIT;
    private static final int BODY_ROOM = 16, MOST_TRIES = 3;
    private static final int ITEMS = ALL_QUEUES + ALL_HOLDS, ALL_BODIES = ITEMS * BODY_ROOM;
    private static final int NO_ITEM = -1;

    // A command without a transaction passes through the kept ones too, so there is one slot more.
    private static final int MOST_KEPT = 6, KEPT_SLOTS = MOST_KEPT + 1, ALL_KEPT = SESSIONS * KEPT_SLOTS;
    private static final int SEND_HEAD = 3, KEPT_ROOM = SEND_HEAD + BODY_ROOM, ALL_KEPT_BYTES = ALL_KEPT * KEPT_ROOM;

    private static final int FINAL_BIT = 128, PACKED_BIT = 64, UNKNOWN_BITS = 48, MASK_BIT = 128;
    private static final int NEXT_PART = 0, FIRST_PART = 1, CLOSE = 8, ASK = 9, ANSWER = 10;
    private static final int LONG_LENGTH = 126, NO_LENGTH = 127, HEAD_BYTES = 2;
    private static final int AT_FIRST = 0, AT_SECOND = 1, AT_LENGTH = 2, AT_MASK = 3, AT_DATA = 4;
    private static final int NO_MESSAGE = 0, PLAIN_MESSAGE = 1, PACKED_MESSAGE = 2;

    private static final int FIRST_COPY = 128, FIRST_WRONG = 160, LEAST_COPY = 2, MOST_COPY = 33;
    private static final int COPY_COST = 2;

    private static final int SUBSCRIBE = 1, UNSUBSCRIBE = 2, SEND = 3, TAKE = 4, REFUSE = 5;
    private static final int BEGIN = 6, COMMIT = 7, DROP = 8, ECHO = 9;
    private static final int GIVEN_MESSAGE = 1;

    private static final int FRAME_FAULT = 2, PACK_FAULT = 7, COMMAND_FAULT = 8, SIZE_FAULT = 9;
    // What a byte leads to, beside the faults.
    private static final int GOES_ON = 0, FRAME_DONE = 16, COMMAND_CAME = 17, CLOSES = 18;

    private final int[] state = new int[SESSIONS];
    private final int[] latestFault = new int[SESSIONS];
    private final int[] commandsDone = new int[SESSIONS];
    private final int[] begun = new int[SESSIONS];
    // Counts on beyond 255, so that the same tag tells which of two givings is the older one.
    private final int[] givings = new int[SESSIONS];

    private final int[] outputBytes = new int[ALL_OUTPUTS];
    private final int[] outputLength = new int[SESSIONS];
    private final int[] pastBytes = new int[ALL_PASTS];
    private final int[] pastLength = new int[SESSIONS];

    private final int[] phase = new int[SESSIONS];
    private final int[] frameHead = new int[SESSIONS];
    private final int[] frameLength = new int[SESSIONS];
    private final int[] frameAt = new int[SESSIONS];
    private final int[] maskBytes = new int[ALL_MASKS];
    private final int[] controlBytes = new int[ALL_CONTROLS];
    private final int[] messageKind = new int[SESSIONS];
    private final int[] messageBytes = new int[ALL_MESSAGES];
    private final int[] messageLength = new int[SESSIONS];

    private final int[] plain = new int[MESSAGE_ROOM];
    private int plainLength = 0;

    private final int[] keptBytes = new int[ALL_KEPT_BYTES];
    private final int[] keptLength = new int[ALL_KEPT];
    private final int[] keptCount = new int[SESSIONS];

    private final boolean[] isThere = new boolean[RING];
    private final int[] placeOf = new int[RING];
    private final int[] modeOf = new int[RING];
    private final int[] creditOf = new int[RING];
    private final int[] holdCount = new int[RING];
    private final int[] holdGiving = new int[ALL_HOLDS];
    private final int[] holdItem = new int[ALL_HOLDS];

    private final int[] itemBody = new int[ALL_BODIES];
    private final int[] itemLength = new int[ITEMS];
    private final int[] itemTries = new int[ITEMS];
    private final int[] queueItem = new int[ALL_QUEUES];
    private final int[] queueCount = new int[QUEUES];
    private final int[] givenCount = new int[PLACES];
    private final int[] lostCount = new int[PLACES];
    private final int[] latestRing = new int[PLACES];

    private final int[] cost = new int[COSTS];

    public BrokerDesk() {
        for (int t = 0; t < PLACES; t++) {
            latestRing[t] = -1;
        }
    }

    public boolean open(int session) {
        if (!isSession(session) || state[session] != SHUT) {
            return false;
        }
        state[session] = OPEN;
        return true;
    }

    public boolean shut(int session) {
        if (!isSession(session) || state[session] == SHUT) {
            return false;
        }
        if (state[session] == OPEN) {
            endSession(session);
        }
        clearSession(session);
        giveQueues();
        return true;
    }

    public int feed(int session, long bytes, int n) {
        if (!isSession(session) || n < 1 || n > 8 || state[session] != OPEN) {
            return REFUSED;
        }
        int looked = 0;
        for (int i = 0; i < n && state[session] == OPEN; i++) {
            int b = (int) (bytes >>> (8 * i)) & 255;
            int outcome = readByte(session, b);
            if (outcome == FRAME_DONE) {
                outcome = finishFrame(session);
            }
            if (outcome == COMMAND_CAME) {
                doCommand(session);
            } else if (outcome == CLOSES) {
                endSession(session);
            } else if (outcome != GOES_ON) {
                fail(session, outcome);
            }
            giveQueues();
            looked++;
        }
        return looked;
    }

    public long take(int session, int n) {
        if (!isSession(session) || n < 1 || n > 7 || n > outputLength[session]) {
            return REFUSED;
        }
        int base = session * OUTPUT_ROOM;
        long taken = 0;
        for (int k = 0; k < n; k++) {
            taken |= (long) outputBytes[base + k] << (8 * k);
        }
        int left = outputLength[session] - n;
        for (int k = 0; k < left; k++) {
            outputBytes[base + k] = outputBytes[base + n + k];
        }
        outputLength[session] = left;
        giveQueues();
        return taken;
    }

    public int output(int session, int k) {
        if (!isSession(session) || k < 0 || k >= outputLength[session]) {
            return REFUSED;
        }
        return outputBytes[session * OUTPUT_ROOM + k];
    }

    public int past(int session, int k) {
        if (!isSession(session) || k < 0 || k >= pastLength[session]) {
            return REFUSED;
        }
        return pastBytes[session * PAST_ROOM + pastLength[session] - 1 - k];
    }

    public int session(int session, int what) {
        if (!isSession(session)) {
            return REFUSED;
        }
        switch (what) {
            case 0:
                return state[session];
            case 1:
                return outputLength[session];
            case 2:
                return messageLength[session];
            case 3:
                return latestFault[session];
            case 4:
                return commandsDone[session];
            case 5:
                return givings[session] & 255;
            case 6:
                return keptCount[session];
            case 7:
                return begun[session];
            default:
                return REFUSED;
        }
    }

    public int subscription(int session, int s, int what) {
        if (!isSession(session) || s < 0 || s >= OWN_SUBSCRIPTIONS) {
            return REFUSED;
        }
        int ring = session * OWN_SUBSCRIPTIONS + s;
        if (!isThere[ring]) {
            return REFUSED;
        }
        switch (what) {
            case 0:
                return placeOf[ring];
            case 1:
                return modeOf[ring];
            case 2:
                return creditOf[ring];
            case 3:
                return holdCount[ring];
            case 4:
                return holdCount[ring] == 0 ? -1 : holdGiving[ring * MOST_CREDIT] & 255;
            default:
                return REFUSED;
        }
    }

    public int place(int t, int what) {
        if (!isPlace(t)) {
            return REFUSED;
        }
        int items = isQueue(t) ? queueCount[t] : 0;
        switch (what) {
            case 0:
                return items;
            case 1:
                return givenCount[t];
            case 2:
                return lostCount[t];
            case 3:
                return latestRing[t];
            case 4:
                return items == 0 ? 0 : itemTries[queueItem[t * QUEUE_ROOM]];
            default:
                return REFUSED;
        }
    }

    public int item(int t, int i, int k) {
        if (!isQueue(t) || i < 0 || i >= queueCount[t]) {
            return REFUSED;
        }
        int which = queueItem[t * QUEUE_ROOM + i];
        if (k < 0 || k >= itemLength[which]) {
            return REFUSED;
        }
        return itemBody[which * BODY_ROOM + k];
    }

    public int ready(int t, int n) {
        if (!isPlace(t) || n < 1 || n > BODY_ROOM) {
            return REFUSED;
        }
        int count = 0;
        for (int ring = 0; ring < RING; ring++) {
            if (canTake(ring, t, n)) {
                count++;
            }
        }
        return count;
    }

    public int shortest(int session, int n) {
        if (!isSession(session) || n < 1 || n > pastLength[session]) {
            return REFUSED;
        }
        int end = pastLength[session];
        int first = end - n;
        cost[first] = 0;
        for (int at = first + 1; at <= end; at++) {
            cost[at] = 2 * COSTS;
        }
        for (int at = first; at < end; at++) {
            tryLiterals(at, end);
            tryCopies(session, at, end);
        }
        return cost[end];
    }

    private boolean isSession(int session) {
        return session >= 0 && session < SESSIONS;
    }

    private boolean isPlace(int t) {
        return t >= 0 && t < PLACES;
    }

    private boolean isQueue(int t) {
        return t >= 0 && t < QUEUES;
    }

    // ---- how a session ends ----

    private void fail(int session, int fault) {
        latestFault[session] = fault;
        if (hasRoom(session, 1)) {
            startFrame(session, CLOSE, 1);
            put(session, fault);
        }
        endSession(session);
    }

    private void endSession(int session) {
        state[session] = CLOSING;
        for (int s = 0; s < OWN_SUBSCRIPTIONS; s++) {
            endSubscription(session * OWN_SUBSCRIPTIONS + s);
        }
        begun[session] = 0;
        keptCount[session] = 0;
        phase[session] = AT_FIRST;
        messageKind[session] = NO_MESSAGE;
        messageLength[session] = 0;
    }

    private void clearSession(int session) {
        state[session] = SHUT;
        outputLength[session] = 0;
        pastLength[session] = 0;
        latestFault[session] = 0;
        commandsDone[session] = 0;
        givings[session] = 0;
    }

    // ---- frames that come ----

    private int readByte(int session, int b) {
        switch (phase[session]) {
            case AT_FIRST:
                return readFirst(session, b);
            case AT_SECOND:
                return readSecond(session, b);
            case AT_LENGTH:
                return readLength(session, b);
            case AT_MASK:
                return readMask(session, b);
            default:
                return readData(session, b);
        }
    }

    private int readFirst(int session, int b) {
        int kind = b & 15;
        boolean control = kind >= CLOSE && kind <= ANSWER;
        boolean goesOn = messageKind[session] != NO_MESSAGE;
        boolean fits = control && (b & FINAL_BIT) != 0
            || kind == FIRST_PART && !goesOn
            || kind == NEXT_PART && goesOn;
        boolean packed = (b & PACKED_BIT) != 0;
        if (!fits || (b & UNKNOWN_BITS) != 0 || packed && kind != FIRST_PART) {
            return FRAME_FAULT;
        }
        if (kind == FIRST_PART) {
            messageKind[session] = packed ? PACKED_MESSAGE : PLAIN_MESSAGE;
        }
        frameHead[session] = b;
        phase[session] = AT_SECOND;
        return GOES_ON;
    }

    private int readSecond(int session, int b) {
        int n = b & 127;
        if ((b & MASK_BIT) == 0 || n == NO_LENGTH || n > CONTROL_ROOM && isControl(session)) {
            return FRAME_FAULT;
        }
        frameAt[session] = 0;
        if (n == LONG_LENGTH) {
            frameLength[session] = 0;
            phase[session] = AT_LENGTH;
            return GOES_ON;
        }
        frameLength[session] = n;
        return judgeLength(session);
    }

    private int readLength(int session, int b) {
        frameLength[session] = 256 * frameLength[session] + b;
        frameAt[session]++;
        if (frameAt[session] < 2) {
            return GOES_ON;
        }
        if (frameLength[session] < LONG_LENGTH) {
            return FRAME_FAULT;
        }
        return judgeLength(session);
    }

    private int judgeLength(int session) {
        if (!isControl(session) && messageLength[session] + frameLength[session] > MESSAGE_ROOM) {
            return SIZE_FAULT;
        }
        frameAt[session] = 0;
        phase[session] = AT_MASK;
        return GOES_ON;
    }

    private int readMask(int session, int b) {
        maskBytes[session * MASK_BYTES + frameAt[session]] = b;
        frameAt[session]++;
        if (frameAt[session] < MASK_BYTES) {
            return GOES_ON;
        }
        frameAt[session] = 0;
        phase[session] = AT_DATA;
        return frameLength[session] == 0 ? FRAME_DONE : GOES_ON;
    }

    private int readData(int session, int b) {
        int at = frameAt[session];
        int value = b ^ maskBytes[session * MASK_BYTES + at % MASK_BYTES];
        if (isControl(session)) {
            controlBytes[session * CONTROL_ROOM + at] = value;
        } else {
            messageBytes[session * MESSAGE_ROOM + messageLength[session]] = value;
            messageLength[session]++;
        }
        frameAt[session] = at + 1;
        return at + 1 == frameLength[session] ? FRAME_DONE : GOES_ON;
    }

    private boolean isControl(int session) {
        return (frameHead[session] & 15) >= CLOSE;
    }

    private int finishFrame(int session) {
        int head = frameHead[session];
        phase[session] = AT_FIRST;
        switch (head & 15) {
            case CLOSE:
                answerControl(session, CLOSE);
                return CLOSES;
            case ASK:
                answerControl(session, ANSWER);
                return GOES_ON;
            case ANSWER:
                return GOES_ON;
            default:
                return (head & FINAL_BIT) == 0 ? GOES_ON : finishMessage(session);
        }
    }

    private void answerControl(int session, int kind) {
        int n = frameLength[session];
        if (hasRoom(session, n)) {
            startFrame(session, kind, n);
            for (int k = 0; k < n; k++) {
                put(session, controlBytes[session * CONTROL_ROOM + k]);
            }
        }
    }

    private int finishMessage(int session) {
        int fault = GOES_ON;
        if (messageKind[session] == PACKED_MESSAGE) {
            fault = unpack(session);
        } else {
            copyMessage(session);
        }
        messageKind[session] = NO_MESSAGE;
        messageLength[session] = 0;
        if (fault != GOES_ON) {
            return fault;
        }
        remember(session);
        if (!isCommand(session)) {
            return COMMAND_FAULT;
        }
        commandsDone[session]++;
        return COMMAND_CAME;
    }

    // ---- what is packed, and the past ----

    private void copyMessage(int session) {
        plainLength = messageLength[session];
        for (int k = 0; k < plainLength; k++) {
            plain[k] = messageBytes[session * MESSAGE_ROOM + k];
        }
    }

    private int unpack(int session) {
        int literals = 0;
        int copies = 0;
        int length = messageLength[session];
        plainLength = 0;
        for (int at = 0; at < length; at++) {
            int b = messageBytes[session * MESSAGE_ROOM + at];
            if (literals > 0) {
                if (plainLength == MESSAGE_ROOM) {
                    return SIZE_FAULT;
                }
                plain[plainLength] = b;
                plainLength++;
                literals--;
            } else if (copies > 0) {
                int fault = copyBack(session, copies, b + 1);
                if (fault != GOES_ON) {
                    return fault;
                }
                copies = 0;
            } else if (b < FIRST_COPY) {
                literals = b + 1;
            } else if (b < FIRST_WRONG) {
                copies = b - FIRST_COPY + LEAST_COPY;
            } else {
                return PACK_FAULT;
            }
        }
        return literals > 0 || copies > 0 ? PACK_FAULT : GOES_ON;
    }

    private int copyBack(int session, int count, int distance) {
        int known = pastLength[session];
        if (distance > known + plainLength) {
            return PACK_FAULT;
        }
        for (int k = 0; k < count; k++) {
            if (plainLength == MESSAGE_ROOM) {
                return SIZE_FAULT;
            }
            int from = plainLength - distance;
            plain[plainLength] = from >= 0 ? plain[from] : pastBytes[session * PAST_ROOM + known + from];
            plainLength++;
        }
        return GOES_ON;
    }

    private void remember(int session) {
        int base = session * PAST_ROOM;
        int known = pastLength[session];
        int all = known + plainLength;
        int dropped = all > PAST_ROOM ? all - PAST_ROOM : 0;
        // Upwards, so that no byte is written over before it has moved.
        for (int k = 0; k < all - dropped; k++) {
            int from = dropped + k;
            pastBytes[base + k] = from < known ? pastBytes[base + from] : plain[from - known];
        }
        pastLength[session] = all - dropped;
    }

    private void tryLiterals(int at, int end) {
        for (int to = at + 1; to <= end; to++) {
            lowerCost(to, cost[at] + 1 + to - at);
        }
    }

    private void tryCopies(int session, int at, int end) {
        int base = session * PAST_ROOM;
        for (int from = 0; from < at; from++) {
            for (int n = 1; n <= MOST_COPY && at + n <= end; n++) {
                if (pastBytes[base + from + n - 1] != pastBytes[base + at + n - 1]) {
                    break;
                }
                if (n >= LEAST_COPY) {
                    lowerCost(at + n, cost[at] + COPY_COST);
                }
            }
        }
    }

    private void lowerCost(int to, int price) {
        if (price < cost[to]) {
            cost[to] = price;
        }
    }

    // ---- commands ----

    private boolean isCommand(int session) {
        if (plainLength == 0) {
            return false;
        }
        switch (plain[0]) {
            case SUBSCRIBE:
                return isSubscribe(session);
            case UNSUBSCRIBE:
                return plainLength == 2 && plain[1] < OWN_SUBSCRIPTIONS
                    && isThere[session * OWN_SUBSCRIPTIONS + plain[1]];
            case SEND:
                return plainLength > SEND_HEAD && plainLength <= KEPT_ROOM && isPlace(plain[1])
                    && mayBeIn(session, plain[2]);
            case TAKE:
            case REFUSE:
                return plainLength == 3 && mayBeIn(session, plain[2]);
            case BEGIN:
                return plainLength == 2 && (plain[1] == 1 || plain[1] == 2) && !isBegun(session, plain[1]);
            case COMMIT:
            case DROP:
                return plainLength == 2 && isBegun(session, plain[1]);
            case ECHO:
                return plainLength == 2;
            default:
                return false;
        }
    }

    private boolean isSubscribe(int session) {
        return plainLength == 5
            && plain[1] < OWN_SUBSCRIPTIONS && !isThere[session * OWN_SUBSCRIPTIONS + plain[1]]
            && isPlace(plain[2])
            && plain[3] < MODES
            && plain[4] >= 1 && plain[4] <= MOST_CREDIT;
    }

    private boolean isBegun(int session, int x) {
        return (x == 1 || x == 2) && (begun[session] & x) != 0;
    }

    private boolean mayBeIn(int session, int x) {
        return x == 0 || isBegun(session, x) && keptCount[session] < MOST_KEPT;
    }

    private void doCommand(int session) {
        int x = plain[1];
        switch (plain[0]) {
            case SUBSCRIBE:
                subscribe(session * OWN_SUBSCRIPTIONS + plain[1]);
                break;
            case UNSUBSCRIBE:
                endSubscription(session * OWN_SUBSCRIPTIONS + plain[1]);
                break;
            case BEGIN:
                begun[session] |= x;
                break;
            case COMMIT:
                doKept(session, x);
                dropKept(session, x);
                begun[session] &= ~x;
                break;
            case DROP:
                dropKept(session, x);
                begun[session] &= ~x;
                break;
            case ECHO:
                echo(session);
                break;
            default:
                keep(session);
                if (plain[2] == 0) {
                    doKept(session, 0);
                    dropKept(session, 0);
                }
                break;
        }
    }

    private void echo(int session) {
        if (hasRoom(session, 2)) {
            startFrame(session, FIRST_PART, 2);
            put(session, ECHO);
            put(session, plain[1]);
        }
    }

    private void keep(int session) {
        int slot = session * KEPT_SLOTS + keptCount[session];
        for (int k = 0; k < plainLength && k < KEPT_ROOM; k++) {
            keptBytes[slot * KEPT_ROOM + k] = plain[k];
        }
        keptLength[slot] = plainLength;
        keptCount[session]++;
    }

    private void doKept(int session, int x) {
        int count = keptCount[session];
        for (int i = 0; i < count; i++) {
            int slot = session * KEPT_SLOTS + i;
            int base = slot * KEPT_ROOM;
            if (keptBytes[base + 2] != x) {
                continue;
            }
            if (keptBytes[base] != SEND) {
                settle(session, keptBytes[base + 1], keptBytes[base] == REFUSE);
            } else if (isQueue(keptBytes[base + 1])) {
                sendToQueue(slot);
            } else {
                sendToStream(slot);
            }
        }
    }

    private void dropKept(int session, int x) {
        int left = 0;
        int count = keptCount[session];
        for (int i = 0; i < count; i++) {
            int slot = session * KEPT_SLOTS + i;
            if (keptBytes[slot * KEPT_ROOM + 2] != x) {
                moveKept(slot, session * KEPT_SLOTS + left);
                left++;
            }
        }
        keptCount[session] = left;
    }

    private void moveKept(int from, int to) {
        for (int k = 0; k < KEPT_ROOM; k++) {
            keptBytes[to * KEPT_ROOM + k] = keptBytes[from * KEPT_ROOM + k];
        }
        keptLength[to] = keptLength[from];
    }

    // ---- subscriptions and what they hold ----

    private void subscribe(int ring) {
        isThere[ring] = true;
        placeOf[ring] = plain[2];
        modeOf[ring] = plain[3];
        creditOf[ring] = plain[4];
        holdCount[ring] = 0;
    }

    private void endSubscription(int ring) {
        if (!isThere[ring]) {
            return;
        }
        for (int i = holdCount[ring] - 1; i >= 0; i--) {
            comeBack(placeOf[ring], holdItem[ring * MOST_CREDIT + i]);
        }
        holdCount[ring] = 0;
        isThere[ring] = false;
    }

    private void settle(int session, int tag, boolean refused) {
        int oldest = findHeld(session, tag);
        if (oldest < 0) {
            return;
        }
        int ring = oldest / MOST_CREDIT;
        int first = modeOf[ring] == 2 ? ring * MOST_CREDIT : oldest;
        for (int hold = oldest; hold >= first; hold--) {
            int which = holdItem[hold];
            if (which == NO_ITEM) {
                continue;
            }
            if (refused) {
                itemTries[which]++;
                comeBack(placeOf[ring], which);
            } else {
                itemLength[which] = 0;
            }
        }
        forgetHeld(ring, first, oldest);
    }

    private int findHeld(int session, int tag) {
        int oldest = -1;
        for (int s = 0; s < OWN_SUBSCRIPTIONS; s++) {
            int ring = session * OWN_SUBSCRIPTIONS + s;
            for (int i = 0; i < holdCount[ring]; i++) {
                int hold = ring * MOST_CREDIT + i;
                boolean older = oldest < 0 || holdGiving[hold] < holdGiving[oldest];
                if ((holdGiving[hold] & 255) == tag && older) {
                    oldest = hold;
                }
            }
        }
        return oldest;
    }

    private void forgetHeld(int ring, int first, int last) {
        int end = ring * MOST_CREDIT + holdCount[ring];
        int gone = last - first + 1;
        for (int hold = last + 1; hold < end; hold++) {
            holdGiving[hold - gone] = holdGiving[hold];
            holdItem[hold - gone] = holdItem[hold];
        }
        holdCount[ring] -= gone;
    }

    /** What a stream gave has no item of its own: it never comes back. */
    private void comeBack(int t, int which) {
        if (which == NO_ITEM) {
            return;
        }
        if (itemTries[which] >= MOST_TRIES || queueCount[t] == QUEUE_ROOM) {
            itemLength[which] = 0;
            lostCount[t]++;
            return;
        }
        int base = t * QUEUE_ROOM;
        for (int i = queueCount[t]; i > 0; i--) {
            queueItem[base + i] = queueItem[base + i - 1];
        }
        queueItem[base] = which;
        queueCount[t]++;
    }

    // ---- sending and giving ----

    private void sendToQueue(int slot) {
        int from = slot * KEPT_ROOM;
        int t = keptBytes[from + 1];
        int which = freeItem();
        if (queueCount[t] == QUEUE_ROOM || which == NO_ITEM) {
            lostCount[t]++;
            return;
        }
        int n = keptLength[slot] - SEND_HEAD;
        itemLength[which] = n;
        itemTries[which] = 0;
        for (int k = 0; k < n; k++) {
            itemBody[which * BODY_ROOM + k] = keptBytes[from + SEND_HEAD + k];
        }
        queueItem[t * QUEUE_ROOM + queueCount[t]] = which;
        queueCount[t]++;
    }

    /** There is always one: there are as many as queues and subscriptions can have together. */
    private int freeItem() {
        for (int which = 0; which < ITEMS; which++) {
            if (itemLength[which] == 0) {
                return which;
            }
        }
        return NO_ITEM;
    }

    private void sendToStream(int slot) {
        int from = slot * KEPT_ROOM;
        int t = keptBytes[from + 1];
        int n = keptLength[slot] - SEND_HEAD;
        for (int ring = 0; ring < RING; ring++) {
            if (canTake(ring, t, n)) {
                give(ring, keptBytes, from + SEND_HEAD, n, NO_ITEM);
            }
        }
    }

    private void giveQueues() {
        for (int t = 0; t < QUEUES; t++) {
            giveQueue(t);
        }
    }

    private void giveQueue(int t) {
        int base = t * QUEUE_ROOM;
        for (int round = 0; round < QUEUE_ROOM && queueCount[t] > 0; round++) {
            int which = queueItem[base];
            int ring = nextTaker(t, itemLength[which]);
            if (ring < 0) {
                return;
            }
            queueCount[t]--;
            for (int i = 0; i < queueCount[t]; i++) {
                queueItem[base + i] = queueItem[base + i + 1];
            }
            give(ring, itemBody, which * BODY_ROOM, itemLength[which], which);
        }
    }

    private int nextTaker(int t, int n) {
        for (int step = 1; step <= RING; step++) {
            int ring = (latestRing[t] + step) % RING;
            if (canTake(ring, t, n)) {
                return ring;
            }
        }
        return -1;
    }

    private boolean canTake(int ring, int t, int n) {
        int session = ring / OWN_SUBSCRIPTIONS;
        return isThere[ring] && placeOf[ring] == t
            && state[session] == OPEN
            && hasRoom(session, 3 + n)
            && (modeOf[ring] == 0 || holdCount[ring] < creditOf[ring]);
    }

    private void give(int ring, int[] body, int from, int n, int which) {
        int session = ring / OWN_SUBSCRIPTIONS;
        startFrame(session, FIRST_PART, 3 + n);
        put(session, GIVEN_MESSAGE);
        put(session, ring % OWN_SUBSCRIPTIONS);
        put(session, givings[session] & 255);
        for (int k = 0; k < n; k++) {
            put(session, body[from + k]);
        }
        if (modeOf[ring] != 0) {
            int hold = ring * MOST_CREDIT + holdCount[ring];
            holdGiving[hold] = givings[session];
            holdItem[hold] = which;
            holdCount[ring]++;
        } else if (which != NO_ITEM) {
            itemLength[which] = 0;
        }
        givings[session]++;
        givenCount[placeOf[ring]]++;
        latestRing[placeOf[ring]] = ring;
    }

    // ---- frames that are written ----

    private boolean hasRoom(int session, int n) {
        return outputLength[session] + HEAD_BYTES + n <= OUTPUT_ROOM;
    }

    /** Only after hasRoom: what is started here is written whole. */
    private void startFrame(int session, int kind, int n) {
        int at = session * OUTPUT_ROOM + outputLength[session];
        outputBytes[at] = FINAL_BIT + kind;
        outputBytes[at + 1] = n;
        outputLength[session] += HEAD_BYTES;
    }

    private void put(int session, int b) {
        outputBytes[session * OUTPUT_ROOM + outputLength[session]] = b;
        outputLength[session]++;
    }
}
