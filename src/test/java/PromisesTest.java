/**
 * The promises 1 to 14, from the first one on: all of their words, each above a method with an ordinary case.
 * The bounds that a promise names are in the tests on edges.
 */
public final class PromisesTest {
    private static final int[] NO_SESSIONS = {-1, 4, Integer.MIN_VALUE, Integer.MAX_VALUE};

    public static void main(String[] args) {
        aNewObject();
        open();
        shut();
        feed();
        take();
        output();
        past();
        session();
        sessionRefused();
        sessionShutAndClosing();
        subscription();
        place();
        item();
        ready();
        shortest();
        lengthsAreJudged();
        whatBecomesPast();
        askedInTurn();
        commandsAreCounted();
        givingsAreCounted();
        inputBeginsAnew();
        Check.end();
    }

    private static void send(BrokerDesk desk, int session, int t, int... values) {
        for (int value : values) {
            Wire.tell(desk, session, 3, t, 0, value);
        }
    }

    /** "All SESSIONS are SHUT, QUEUES are empty." */
    private static void aNewObject() {
        BrokerDesk desk = new BrokerDesk();
        for (int session = 0; session < 4; session++) {
            Check.due("1: session " + session, desk.session(session, 0), BrokerDesk.SHUT);
        }
        for (int t = 0; t < 3; t++) {
            Check.due("1: queue " + t, desk.place(t, 0), 0);
        }
    }

    /** "A SESSION that is SHUT is OPEN: true; false if there is none such." */
    private static void open() {
        BrokerDesk desk = new BrokerDesk();
        Check.due("2: shut", desk.open(2), true);
        Check.due("2: is open", desk.session(2, 0), BrokerDesk.OPEN);
        Check.due("2: open", desk.open(2), false);
        Wire.feed(desk, 2, Wire.frame(136));
        Check.due("2: closing", desk.open(2), false);
        Check.due("2: is closing", desk.session(2, 0), BrokerDesk.CLOSING);
        desk.shut(2);
        Check.due("2: shut again", desk.open(2), true);
        for (int none : NO_SESSIONS) {
            Check.due("2: session " + none, desk.open(none), false);
        }
    }

    /** "A SESSION ENDS, if it is OPEN, and is SHUT: true; false if there is none, or it is SHUT." */
    private static void shut() {
        BrokerDesk desk = Wire.opened(2);
        Wire.tell(desk, 0, 1, 0, 0, 1, 1);
        send(desk, 1, 0, 10);
        Check.due("3: open", desk.shut(0), true);
        Check.due("3: it ended, so the item is back", desk.place(0, 0), 1);
        Check.due("3: is shut", desk.session(0, 0), BrokerDesk.SHUT);
        Check.due("3: shut", desk.shut(0), false);
        Wire.feed(desk, 1, 2);
        Check.due("3: closing", desk.shut(1), true);
        Check.due("3: is shut too", desk.session(1, 0), BrokerDesk.SHUT);
        Check.due("3: never opened", desk.shut(3), false);
        for (int none : NO_SESSIONS) {
            Check.due("3: session " + none, desk.shut(none), false);
        }
    }

    /**
     * "INPUT: n (1..8) bytes, the lowest one of the long first: how many were looked at (fewer if it ENDS). REFUSED
     * if there is no such SESSION, n is another one, or it is not OPEN."
     */
    private static void feed() {
        BrokerDesk desk = Wire.opened(2);
        Check.due("4: eight", desk.feed(0, 0x07_09_00_00_00_00_82_81L, 8), 8);
        Check.due("4: the lowest one first", desk.output(0, 3), 7);
        Check.due("4: one", desk.feed(0, 0x89, 1), 1);
        Check.due("4: five", desk.feed(0, 0x80, 5), 5);
        Check.due("4: done", desk.session(0, 1), 6);
        Check.due("4: fewer, with the byte that ends it", desk.feed(0, 0x00_02_89, 3), 2);
        Check.due("4: it ended", desk.session(0, 0), BrokerDesk.CLOSING);
        Check.due("4: closing", desk.feed(0, 0x89, 1), BrokerDesk.REFUSED);
        Check.due("4: shut", desk.feed(2, 0x89, 1), BrokerDesk.REFUSED);
        for (int n : new int[] {0, 9, -1, Integer.MIN_VALUE, Integer.MAX_VALUE}) {
            Check.due("4: n " + n, desk.feed(1, 2, n), BrokerDesk.REFUSED);
        }
        for (int none : NO_SESSIONS) {
            Check.due("4: session " + none, desk.feed(none, 2, 1), BrokerDesk.REFUSED);
        }
        Check.due("4: none was looked at", desk.session(1, 0), BrokerDesk.OPEN);
    }

    /**
     * "The first n (1..7) bytes of the OUTPUT, the lowest one first; they leave it. REFUSED, and nothing changes, if
     * there is no such SESSION, n is another one, or there are not as many."
     */
    private static void take() {
        BrokerDesk desk = Wire.opened(1);
        Wire.feed(desk, 0, Wire.frame(137, 255, 2, 3, 4, 5, 6, 7));
        Check.due("5: seven", desk.take(0, 7), 0x05_04_03_02_FF_07_8AL);
        Check.due("5: they left", desk.output(0, 0), 6);
        Check.due("5: not as many", desk.take(0, 3), BrokerDesk.REFUSED);
        for (int n : new int[] {0, 8, -1, Integer.MIN_VALUE, Integer.MAX_VALUE}) {
            Check.due("5: n " + n, desk.take(0, n), BrokerDesk.REFUSED);
        }
        for (int none : NO_SESSIONS) {
            Check.due("5: session " + none, desk.take(none, 1), BrokerDesk.REFUSED);
        }
        Wire.dueOutput("5: nothing changed", desk, 0, 6, 7);
        Check.due("5: one", desk.take(0, 1), 6);
        Check.due("5: the last one", desk.take(0, 1), 7);
        Check.due("5: none", desk.take(0, 1), BrokerDesk.REFUSED);
    }

    /** "Byte k of the OUTPUT (0 the next one); REFUSED if there is none." */
    private static void output() {
        BrokerDesk desk = Wire.opened(1);
        Wire.tell(desk, 0, 9, 66);
        Check.due("6: the next one", desk.output(0, 0), 129);
        Check.due("6: the last one", desk.output(0, 3), 66);
        Check.due("6: looking changes nothing", desk.session(0, 1), 4);
        Check.due("6: behind the last one", desk.output(0, 4), BrokerDesk.REFUSED);
        Check.due("6: before the next one", desk.output(0, -1), BrokerDesk.REFUSED);
        desk.take(0, 2);
        Check.due("6: then the next one", desk.output(0, 0), 9);
        for (int none : NO_SESSIONS) {
            Check.due("6: session " + none, desk.output(none, 0), BrokerDesk.REFUSED);
        }
    }

    /** "Byte k of the PAST, from its end on (0 the latest one); REFUSED if there is none." */
    private static void past() {
        BrokerDesk desk = Wire.opened(1);
        Check.due("7: none yet", desk.past(0, 0), BrokerDesk.REFUSED);
        Wire.tell(desk, 0, 9, 66);
        Check.due("7: the latest one", desk.past(0, 0), 66);
        Check.due("7: the one before", desk.past(0, 1), 9);
        Check.due("7: there is none", desk.past(0, 2), BrokerDesk.REFUSED);
        Check.due("7: behind the latest one", desk.past(0, -1), BrokerDesk.REFUSED);
        for (int none : NO_SESSIONS) {
            Check.due("7: session " + none, desk.past(none, 0), BrokerDesk.REFUSED);
        }
    }

    private static void dueSession(String what, BrokerDesk desk, int session, int... want) {
        for (int k = 0; k < want.length; k++) {
            Check.due("8: " + what + ", what " + k, desk.session(session, k), want[k]);
        }
    }

    /**
     * "Of a SESSION what 0: SHUT, OPEN, CLOSING; 1: bytes in the OUTPUT; 2: bytes of data that came of a message
     * that is not whole; 3: the latest FAULT since it opened (0 none); 4: COMMANDS that were done (not with a FAULT
     * 8); 5: its next TAG; 6: what is kept for TRANSACTIONS; 7: which are begun (1 for 1, 2 for 2, together);"
     */
    private static void session() {
        BrokerDesk desk = Wire.opened(1);
        dueSession("opened", desk, 0, BrokerDesk.OPEN, 0, 0, 0, 0, 0, 0, 0);
        Wire.tell(desk, 0, 1, 0, 3, 1, 5);
        send(desk, 0, 3, 7, 8);
        dueSession("two were given", desk, 0, BrokerDesk.OPEN, 12, 0, 0, 3, 2, 0, 0);
        Wire.tell(desk, 0, 6, 2);
        dueSession("2 is begun", desk, 0, BrokerDesk.OPEN, 12, 0, 0, 4, 2, 0, 2);
        Wire.tell(desk, 0, 4, 0, 2);
        Wire.tell(desk, 0, 6, 1);
        dueSession("one is kept", desk, 0, BrokerDesk.OPEN, 12, 0, 0, 6, 2, 1, 3);
        Wire.tell(desk, 0, 8, 2);
        dueSession("1 is begun", desk, 0, BrokerDesk.OPEN, 12, 0, 0, 7, 2, 0, 1);
        Wire.feed(desk, 0, Wire.frame(1, 5, 5, 5));
        Wire.feed(desk, 0, 0, 128 + 9, 0, 0, 0, 0, 1, 1);
        dueSession("five bytes came", desk, 0, BrokerDesk.OPEN, 12, 5, 0, 7, 2, 0, 1);
    }

    /** "REFUSED if there is none, or for others." */
    private static void sessionRefused() {
        BrokerDesk desk = Wire.opened(1);
        for (int what : new int[] {-1, 8, Integer.MIN_VALUE, Integer.MAX_VALUE}) {
            Check.due("8: what " + what, desk.session(0, what), BrokerDesk.REFUSED);
            Check.due("8: what " + what + " of a shut one", desk.session(1, what), BrokerDesk.REFUSED);
        }
        for (int none : NO_SESSIONS) {
            Check.due("8: session " + none, desk.session(none, 1), BrokerDesk.REFUSED);
        }
    }

    /** "of SHUT ones all are 0, of CLOSING ones 2, 6 and 7." */
    private static void sessionShutAndClosing() {
        BrokerDesk desk = Wire.opened(1);
        Wire.tell(desk, 0, 1, 0, 3, 0, 1);
        send(desk, 0, 3, 7);
        Wire.tell(desk, 0, 6, 1);
        Wire.tell(desk, 0, 4, 0, 1);
        Wire.feed(desk, 0, Wire.frame(1, 5, 5, 5));
        Wire.feed(desk, 0, 1);
        dueSession("closing", desk, 0, BrokerDesk.CLOSING, 9, 0, 2, 4, 1, 0, 0);
        desk.shut(0);
        dueSession("shut", desk, 0, BrokerDesk.SHUT, 0, 0, 0, 0, 0, 0, 0);
        desk.open(0);
        dueSession("no fault since it opened", desk, 0, BrokerDesk.OPEN, 0, 0, 0, 0, 0, 0, 0);
        Wire.tell(desk, 0, 10);
        dueSession("a fault 8 is not counted", desk, 0, BrokerDesk.CLOSING, 3, 0, 8, 0, 0, 0, 0);
    }

    /**
     * "Of a SUBSCRIPTION what 0: its PLACE, 1: MODE, 2: CREDIT, 3: how many ITEMS it HOLDS, 4: the oldest one's TAG,
     * or -1. REFUSED if it is not there, or for others."
     */
    private static void subscription() {
        BrokerDesk desk = Wire.opened(2);
        Wire.tell(desk, 1, 1, 3, 2, 1, 4);
        int[] empty = {2, 1, 4, 0, -1};
        for (int what = 0; what < 5; what++) {
            Check.due("9: new, what " + what, desk.subscription(1, 3, what), empty[what]);
        }
        send(desk, 0, 2, 5, 6, 7);
        Wire.tell(desk, 1, 4, 0, 0);
        int[] holds = {2, 1, 4, 2, 1};
        for (int what = 0; what < 5; what++) {
            Check.due("9: holds two, what " + what, desk.subscription(1, 3, what), holds[what]);
            Check.due("9: not there", desk.subscription(1, 2, what), BrokerDesk.REFUSED);
        }
        for (int what : new int[] {-1, 5, Integer.MIN_VALUE, Integer.MAX_VALUE}) {
            Check.due("9: what " + what, desk.subscription(1, 3, what), BrokerDesk.REFUSED);
        }
        for (int none : NO_SESSIONS) {
            Check.due("9: session " + none, desk.subscription(none, 3, 0), BrokerDesk.REFUSED);
            Check.due("9: s " + none, desk.subscription(1, none, 0), BrokerDesk.REFUSED);
        }
        Wire.tell(desk, 1, 2, 3);
        Check.due("9: ended", desk.subscription(1, 3, 0), BrokerDesk.REFUSED);
    }

    private static void duePlace(String what, BrokerDesk desk, int t, int... want) {
        for (int k = 0; k < want.length; k++) {
            Check.due("10: " + what + ", what " + k, desk.place(t, k), want[k]);
        }
    }

    /**
     * "Of a PLACE what 0: ITEMS there (0 for STREAMS), 1: how many were GIVEN from it, 2: LOST, 3: the ring's number
     * that got the latest one (-1 none; of STREAMS too), 4: TRIES of the first ITEM (0 without one). REFUSED if there
     * is none, or for others."
     */
    private static void place() {
        BrokerDesk desk = Wire.opened(3);
        for (int t = 0; t < 6; t++) {
            duePlace("new " + t, desk, t, 0, 0, 0, -1, 0);
        }
        Wire.tell(desk, 2, 1, 1, 1, 2, 1);
        Wire.tell(desk, 1, 1, 2, 4, 0, 1);
        send(desk, 0, 1, 1, 2, 3, 4, 5, 6, 7, 8, 9, 10);
        send(desk, 0, 4, 11, 12);
        duePlace("a queue", desk, 1, 8, 1, 1, 9, 0);
        duePlace("a stream", desk, 4, 0, 2, 0, 6, 0);
        Wire.tell(desk, 2, 4, 0, 0);
        Wire.fillOutput(desk, 2, 5);
        Wire.tell(desk, 2, 5, 1, 0);
        duePlace("a queue with a try", desk, 1, 8, 2, 1, 9, 1);
        for (int what : new int[] {-1, 5, Integer.MIN_VALUE, Integer.MAX_VALUE}) {
            Check.due("10: what " + what, desk.place(1, what), BrokerDesk.REFUSED);
            Check.due("10: what " + what + " of a stream", desk.place(4, what), BrokerDesk.REFUSED);
        }
        for (int none : new int[] {-1, 6, Integer.MIN_VALUE, Integer.MAX_VALUE}) {
            Check.due("10: place " + none, desk.place(none, 0), BrokerDesk.REFUSED);
        }
    }

    /** "Byte k of the BODY of ITEM i (0 the first) of a QUEUE; REFUSED if there is none." */
    private static void item() {
        BrokerDesk desk = Wire.opened(1);
        Wire.tell(desk, 0, 3, 2, 0, 10, 11, 12);
        Wire.tell(desk, 0, 3, 2, 0, 20);
        Check.due("11: the first", desk.item(2, 0, 0), 10);
        Check.due("11: its last byte", desk.item(2, 0, 2), 12);
        Check.due("11: the second", desk.item(2, 1, 0), 20);
        Check.due("11: no such byte", desk.item(2, 1, 1), BrokerDesk.REFUSED);
        Check.due("11: no such item", desk.item(2, 2, 0), BrokerDesk.REFUSED);
        Check.due("11: no item there", desk.item(1, 0, 0), BrokerDesk.REFUSED);
        Check.due("11: a stream", desk.item(3, 0, 0), BrokerDesk.REFUSED);
        for (int none : new int[] {-1, 16, Integer.MIN_VALUE, Integer.MAX_VALUE}) {
            Check.due("11: place " + none, desk.item(none, 0, 0), BrokerDesk.REFUSED);
            Check.due("11: item " + none, desk.item(2, none, 0), BrokerDesk.REFUSED);
            Check.due("11: byte " + none, desk.item(2, 0, none), BrokerDesk.REFUSED);
        }
    }

    /**
     * "How many SUBSCRIPTIONS for a PLACE CAN, for a BODY of n bytes; REFUSED if there is no such PLACE, or n is not
     * 1..16."
     */
    private static void ready() {
        BrokerDesk desk = Wire.opened(3);
        Wire.tell(desk, 0, 1, 0, 5, 0, 1);
        Wire.tell(desk, 1, 1, 0, 5, 1, 1);
        Wire.tell(desk, 1, 1, 1, 5, 2, 2);
        Wire.tell(desk, 2, 1, 0, 4, 0, 1);
        Check.due("12: three", desk.ready(5, 1), 3);
        send(desk, 2, 5, 1);
        Check.due("12: one holds as many as it may", desk.ready(5, 16), 2);
        Wire.fillOutput(desk, 0, 9);
        Check.due("12: room for four bytes", desk.ready(5, 4), 2);
        Check.due("12: but not for five", desk.ready(5, 5), 1);
        Check.due("12: another place", desk.ready(4, 16), 1);
        Check.due("12: a place without one", desk.ready(0, 1), 0);
        for (int none : new int[] {-1, 6, Integer.MIN_VALUE, Integer.MAX_VALUE}) {
            Check.due("12: place " + none, desk.ready(none, 1), BrokerDesk.REFUSED);
        }
        for (int n : new int[] {0, 17, -1, Integer.MIN_VALUE, Integer.MAX_VALUE}) {
            Check.due("12: n " + n, desk.ready(5, n), BrokerDesk.REFUSED);
        }
    }

    /**
     * "The least number of bytes that are UNPACKED as the latest n bytes of the PAST, with those of it before them
     * alone as the PAST. REFUSED if there is no such SESSION, n is not above 0, or there are not as many."
     */
    private static void shortest() {
        BrokerDesk desk = Wire.opened(1);
        Wire.tell(desk, 0, 3, 0, 0, 10, 11, 12, 3, 0, 0, 10, 11, 12, 12, 12);
        Check.due("13: 12, as it is or copied with another", desk.shortest(0, 1), 2);
        Check.due("13: 12 12, copied from behind 12", desk.shortest(0, 2), 2);
        Check.due("13: eight bytes, two copies", desk.shortest(0, 8), 4);
        Check.due("13: all, two zeros copied or not", desk.shortest(0, 14), 1 + 6 + 2 + 2);
        int[] row = {159, 5};
        Wire.tellPacked(desk, 0, row);
        Check.due("13: 33 bytes, as they came", desk.shortest(0, 33), row.length);
        Check.due("13: not as many", desk.shortest(0, 48), BrokerDesk.REFUSED);
        for (int n : new int[] {0, -1, 65, Integer.MIN_VALUE, Integer.MAX_VALUE}) {
            Check.due("13: n " + n, desk.shortest(0, n), BrokerDesk.REFUSED);
        }
        for (int none : NO_SESSIONS) {
            Check.due("13: session " + none, desk.shortest(none, 1), BrokerDesk.REFUSED);
        }
    }

    /**
     * "feed: a length is judged when all its bytes are there, and if both 2 and 9 were the FAULT then, it is 2."
     */
    private static void lengthsAreJudged() {
        BrokerDesk desk = Wire.opened(2);
        Wire.feed(desk, 0, 129, 254, 255);
        Check.due("14: one byte of two", desk.session(0, 0), BrokerDesk.OPEN);
        Wire.feed(desk, 0, 0);
        Check.due("14: both", desk.session(0, 3), 9);
        Wire.feed(desk, 1, Wire.frame(1, Wire.fill(120, 1)));
        Wire.feed(desk, 1, 128, 254, 0);
        Check.due("14: one byte of two again", desk.session(1, 0), BrokerDesk.OPEN);
        Wire.feed(desk, 1, 100);
        Check.due("14: below 126, and 220 together", desk.session(1, 3), 2);
    }

    /** "A message with FAULT 7 or 9 does not become part of the PAST, one with FAULT 8 does." */
    private static void whatBecomesPast() {
        BrokerDesk desk = Wire.opened(3);
        Wire.tellPacked(desk, 0, 0, 9, 255);
        Wire.tellPacked(desk, 1, 0, 9, 159, 0, 159, 0, 159, 0, 159, 0, 159, 0, 159, 0, 159, 0);
        Wire.tellPacked(desk, 2, 1, 20, 21);
        int[] due = {7, 9, 8};
        for (int session = 0; session < 3; session++) {
            Check.due("14: fault", desk.session(session, 3), due[session]);
            Check.due("14: past with fault " + due[session], desk.past(session, 0), session == 2 ? 21 : -1);
        }
        Wire.duePast("14: all of it", desk, 2, 20, 21);
    }

    /**
     * "Of an ITEM SENT to a STREAM each SUBSCRIPTION in turn is asked whether it CAN, with what those before it were
     * given already in the OUTPUT."
     */
    private static void askedInTurn() {
        BrokerDesk desk = Wire.opened(2);
        for (int s = 0; s < 3; s++) {
            Wire.tell(desk, 0, 1, s, 3, 0, 1);
        }
        Wire.tell(desk, 1, 1, 0, 3, 0, 1);
        Wire.fillOutput(desk, 0, 13);
        Check.due("14: each of them could alone", desk.ready(3, 1), 4);
        send(desk, 1, 3, 90);
        Check.due("14: two of session 0 got it", desk.session(0, 5), 2);
        Check.due("14: and session 1's", desk.session(1, 5), 1);
        Check.due("14: three givings", desk.place(3, 1), 3);
    }

    /** "session: 4 counts a COMMAND that is kept when it comes, and not again when 7 does it (7 counts as one)." */
    private static void commandsAreCounted() {
        BrokerDesk desk = Wire.opened(1);
        Wire.tell(desk, 0, 6, 1);
        for (int k = 0; k < 4; k++) {
            Wire.tell(desk, 0, 3, 0, 1, k);
        }
        Check.due("14: kept, and counted", desk.session(0, 4), 5);
        Wire.tell(desk, 0, 7, 1);
        Check.due("14: 7 alone", desk.session(0, 4), 6);
        Check.due("14: though it did four", desk.place(0, 0), 4);
    }

    /**
     * "place: 1 counts each giving: once for every SUBSCRIPTION of a STREAM, and again if an ITEM that came back is
     * GIVEN again."
     */
    private static void givingsAreCounted() {
        BrokerDesk desk = Wire.opened(1);
        Wire.tell(desk, 0, 1, 0, 3, 0, 1);
        Wire.tell(desk, 0, 1, 1, 3, 0, 1);
        Wire.tell(desk, 0, 1, 2, 0, 1, 1);
        send(desk, 0, 3, 1);
        Check.due("14: two of a stream", desk.place(3, 1), 2);
        send(desk, 0, 0, 2);
        Check.due("14: one of a queue", desk.place(0, 1), 1);
        Wire.tell(desk, 0, 5, 2, 0);
        Check.due("14: came back, given again", desk.place(0, 1), 2);
    }

    /** "open: INPUT begins with a new FRAME and a new message." */
    private static void inputBeginsAnew() {
        int[] message = Wire.frame(129, 9, 5);
        int[] started = Wire.join(Wire.frame(1, 3, 0), Wire.frame(0, 0, 1, 2));
        for (int n = 1; n < started.length; n++) {
            BrokerDesk desk = Wire.opened(1);
            Wire.feed(desk, 0, java.util.Arrays.copyOf(started, n));
            desk.shut(0);
            desk.open(0);
            Wire.feed(desk, 0, message);
            Wire.dueOutput("14: opened behind " + n + " bytes", desk, 0, 129, 2, 9, 5);
        }
    }
}
