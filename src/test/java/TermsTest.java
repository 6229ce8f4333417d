/**
 * What the document says before its promises, from its first line on: each sentence, in their order, above a
 * method with an ordinary case. The bounds that a sentence names are in the tests on edges, and the limit of
 * 512 calls is in LimitTest.
 */
public final class TermsTest {
    public static void main(String[] args) {
        aBrokerBehindSockets();
        bytes();
        sessions();
        whatASessionHas();
        opensWithNone();
        places();
        items();
        framesInARow();
        firstByte();
        secondByte();
        mask();
        data();
        kindsOfFrames();
        frameFaults();
        frameIsDone();
        controlsAreAnswered();
        wholeMessage();
        unpacking();
        unpackingFaults();
        notPacked();
        commands();
        subscribing();
        sending();
        takingAndRefusing();
        transactions();
        asking();
        keptUntilSeven();
        sentToAQueue();
        sentToAStream();
        can();
        giving();
        queueGives();
        taken();
        refused();
        noneHolds();
        subscriptionEnds();
        sessionEnds();
        fault();
        written();
        whenQueuesGive();
        Check.end();
    }

    private static void dueItems(String what, BrokerDesk desk, int t, int... want) {
        Check.due(what + ": items", desk.place(t, 0), want.length);
        for (int i = 0; i < want.length; i++) {
            Check.due(what + ": item " + i, desk.item(t, i, 0), want[i]);
        }
    }

    private static void send(BrokerDesk desk, int session, int t, int... values) {
        for (int value : values) {
            Wire.tell(desk, session, 3, t, 0, value);
        }
    }

    /**
     * "A broker behind sockets: frames with masks and parts come in byte by byte, messages may be packed by what
     * was there before, commands subscribe, send, take and refuse, alone or in transactions; queues give each item
     * to one of those who can take it, streams to all; what is written back needs room."
     */
    private static void aBrokerBehindSockets() {
        BrokerDesk desk = Wire.opened(3);
        for (int b : Wire.join(Wire.frame(1, 1, 0, 0), Wire.frame(128, 1, 1))) {
            Check.due("byte by byte", desk.feed(0, b, 1), 1);
        }
        Wire.tellPacked(desk, 0, 1, 1, 1, 129, 4);
        Check.due("1 1 0 1 1, partly by what was there", desk.subscription(0, 1, 0), 0);
        Wire.tell(desk, 1, 1, 0, 4, 0, 1);
        Wire.tell(desk, 2, 1, 0, 4, 0, 1);
        send(desk, 1, 0, 50, 51, 52);
        Wire.dueOutput("each to one", desk, 0, 129, 4, 1, 0, 0, 50, 129, 4, 1, 1, 1, 51);
        dueItems("none can take it", desk, 0, 52);
        Wire.tell(desk, 0, 6, 1);
        Wire.tell(desk, 0, 4, 0, 1);
        Wire.tell(desk, 0, 5, 1, 1);
        Wire.tell(desk, 0, 7, 1);
        Check.due("51 came back and is given again, 52 behind it", desk.place(0, 1), 4);
        send(desk, 0, 4, 60);
        Wire.dueOutput("a stream's to all: 1", desk, 1, 129, 4, 1, 0, 0, 60);
        Wire.dueOutput("a stream's to all: 2", desk, 2, 129, 4, 1, 0, 0, 60);
        Wire.fillOutput(desk, 2, 5);
        send(desk, 0, 4, 61);
        Check.due("there is room", desk.session(1, 1), 12);
        Check.due("there is none", desk.session(2, 1), 235);
    }

    /** "BYTES are 0..255." */
    private static void bytes() {
        BrokerDesk desk = Wire.opened(1);
        Wire.tell(desk, 0, 9, 255);
        Wire.tell(desk, 0, 9, 0);
        Wire.dueOutput("the highest and the lowest", desk, 0, 129, 2, 9, 255, 129, 2, 9, 0);
        Check.due("the lowest is past", desk.past(0, 0), 0);
        Check.due("the highest is past", desk.past(0, 2), 255);
    }

    /** "SESSIONS 0..3 are SHUT (at first), OPEN or CLOSING." */
    private static void sessions() {
        BrokerDesk desk = new BrokerDesk();
        for (int session = 0; session < 4; session++) {
            Check.due("at first", desk.session(session, 0), BrokerDesk.SHUT);
            desk.open(session);
            Check.due("opened", desk.session(session, 0), BrokerDesk.OPEN);
            Wire.feed(desk, session, Wire.frame(136));
            Check.due("closed", desk.session(session, 0), BrokerDesk.CLOSING);
        }
        Check.due("no session before 0", desk.session(-1, 0), BrokerDesk.REFUSED);
        Check.due("no session behind 3", desk.session(4, 0), BrokerDesk.REFUSED);
    }

    /**
     * "One has an OUTPUT, a row of at most 240 bytes; a PAST, the last 64 bytes of the messages that came in it as
     * they are UNPACKED; SUBSCRIPTIONS 0..3, each there or not; and TRANSACTIONS 1, 2, begun or not."
     */
    private static void whatASessionHas() {
        BrokerDesk desk = Wire.opened(2);
        for (int k = 0; k < 70; k++) {
            Wire.tellPacked(desk, 0, 1, 9, k);
        }
        Check.due("60 answers of 4 bytes", desk.session(0, 1), 240);
        Check.due("the first one", desk.output(0, 3), 0);
        Check.due("the last one for which there was room", desk.output(0, 239), 59);
        Check.due("the last byte", desk.past(0, 0), 69);
        Check.due("byte 64 from the end", desk.past(0, 63), 9);
        Check.due("no more", desk.past(0, 64), BrokerDesk.REFUSED);
        for (int s = 0; s < 4; s++) {
            Check.due("not there", desk.subscription(1, s, 0), BrokerDesk.REFUSED);
            Wire.tell(desk, 1, 1, s, s, 0, 1);
            Check.due("there", desk.subscription(1, s, 0), s);
        }
        Check.due("none is begun", desk.session(1, 7), 0);
        Wire.tell(desk, 1, 6, 2);
        Check.due("2 is begun, 1 is not", desk.session(1, 7), 2);
        Check.due("nothing of another session", desk.session(0, 7), 0);
    }

    /** "It opens with none of all these." */
    private static void opensWithNone() {
        BrokerDesk desk = Wire.opened(1);
        Wire.tell(desk, 0, 9, 1);
        Wire.tell(desk, 0, 1, 2, 3, 1, 1);
        Wire.tell(desk, 0, 6, 1);
        desk.shut(0);
        desk.open(0);
        Wire.dueOutput("no output", desk, 0);
        Check.due("no past", desk.past(0, 0), BrokerDesk.REFUSED);
        for (int s = 0; s < 4; s++) {
            Check.due("no subscription", desk.subscription(0, s, 0), BrokerDesk.REFUSED);
        }
        Check.due("none is begun", desk.session(0, 7), 0);
    }

    /** "PLACES 0..2 are QUEUES, rows of at most 8 ITEMS, 3..5 are STREAMS." */
    private static void places() {
        BrokerDesk desk = Wire.opened(1);
        for (int t = 0; t < 6; t++) {
            for (int k = 0; k < 9; k++) {
                send(desk, 0, t, k);
            }
            Check.due("items of " + t, desk.place(t, 0), t < 3 ? 8 : 0);
        }
        Check.due("none before 0", desk.place(-1, 0), BrokerDesk.REFUSED);
        Check.due("none behind 5", desk.place(6, 0), BrokerDesk.REFUSED);
    }

    /** "An ITEM has a BODY of 1 to 16 bytes, and TRIES (0 at first)." */
    private static void items() {
        BrokerDesk desk = Wire.opened(1);
        Wire.tell(desk, 0, 3, 0, 0, 77);
        Wire.tell(desk, 0, Wire.join(Wire.bytes(3, 0, 0), Wire.count(16, 100)));
        Check.due("no tries", desk.place(0, 4), 0);
        Check.due("one byte", desk.item(0, 0, 0), 77);
        Check.due("no second one", desk.item(0, 0, 1), BrokerDesk.REFUSED);
        Check.due("sixteen bytes", desk.item(0, 1, 15), 115);
        Check.due("no seventeenth one", desk.item(0, 1, 16), BrokerDesk.REFUSED);
    }

    /** "INPUT of an OPEN SESSION is a row of FRAMES." */
    private static void framesInARow() {
        BrokerDesk desk = Wire.opened(1);
        int[] row = Wire.join(Wire.frame(129, 9, 1), Wire.frame(137, 2), Wire.frame(129, 9, 3));
        Check.due("all of them", Wire.feed(desk, 0, row), row.length);
        Wire.dueOutput("one behind the other", desk, 0, 129, 2, 9, 1, 138, 1, 2, 129, 2, 9, 3);
    }

    /** "A byte 128 f + 64 p + o: with f the message ends, with p it is PACKED." */
    private static void firstByte() {
        BrokerDesk desk = Wire.opened(1);
        Wire.feed(desk, 0, Wire.frame(1, 9, 5));
        Check.due("without f it goes on", desk.session(0, 4), 0);
        Wire.feed(desk, 0, Wire.frame(128));
        Check.due("with f it ends", desk.session(0, 4), 1);
        Wire.feed(desk, 0, Wire.frame(64 + 1, 1, 9));
        Check.due("packed, and goes on", desk.session(0, 4), 1);
        Wire.feed(desk, 0, Wire.frame(128, 6));
        Wire.feed(desk, 0, Wire.frame(128 + 64 + 1, 1, 9, 7));
        Wire.dueOutput("each was 9 and a byte", desk, 0, 129, 2, 9, 5, 129, 2, 9, 6, 129, 2, 9, 7);
    }

    /** "A byte 128 m + n: the length is n, but for 126 it is 256 times the next byte and the one behind that." */
    private static void secondByte() {
        BrokerDesk desk = Wire.opened(2);
        Wire.feed(desk, 0, 1, 128 + 3, 0, 0, 0, 0, 5, 5, 5);
        Check.due("three bytes", desk.session(0, 2), 3);
        Check.due("then a new frame", Wire.feed(desk, 0, Wire.frame(137)), 6);
        Wire.feed(desk, 1, 1, 128 + 126, 0, 150, 0, 0, 0, 0);
        Wire.feed(desk, 1, Wire.fill(150, 5));
        Check.due("150 bytes", desk.session(1, 2), 150);
        Check.due("then a new frame again", Wire.feed(desk, 1, Wire.frame(137)), 6);
        Check.due("without a fault", desk.session(1, 3), 0);
        Wire.feed(desk, 1, 0, 128 + 126, 1, 0);
        Check.due("256 times 1 is too much", desk.session(1, 3), 9);
    }

    /** "Four bytes of a MASK." */
    private static void mask() {
        BrokerDesk desk = Wire.opened(1);
        Wire.feed(desk, 0, 129, 130, 9, 9, 9);
        Check.due("three of them", Wire.feed(desk, 0, 9), 1);
        Check.due("no data so far", desk.session(0, 2), 0);
        Wire.feed(desk, 0, 9 ^ 9);
        Check.due("then the data", desk.session(0, 2), 1);
    }

    /** "The data: byte k is what came exclusive or byte k % 4 of the MASK." */
    private static void data() {
        BrokerDesk desk = Wire.opened(1);
        Wire.feed(desk, 0, 137, 128 + 6, 1, 2, 4, 8, 16, 16, 16, 16, 16, 16);
        Wire.dueOutput("six bytes", desk, 0, 138, 6, 17, 18, 20, 24, 17, 18);
    }

    /**
     * "o is 1 for the first part of a message, 0 for others; CONTROLS (also between parts) are 8, which closes, 9,
     * which asks, and 10, which is not looked at further."
     */
    private static void kindsOfFrames() {
        BrokerDesk desk = Wire.opened(1);
        Wire.feed(desk, 0, Wire.frame(1, 3));
        Wire.feed(desk, 0, Wire.frame(137, 70));
        Wire.feed(desk, 0, Wire.frame(0, 1, 0));
        Wire.feed(desk, 0, Wire.frame(138, 71));
        Wire.feed(desk, 0, Wire.frame(0, 72));
        Wire.feed(desk, 0, Wire.frame(128, 73));
        Check.due("four parts", desk.item(1, 0, 1), 73);
        Wire.dueOutput("9 is answered, 10 is not", desk, 0, 138, 1, 70);
        Wire.feed(desk, 0, Wire.frame(1, 3));
        Wire.feed(desk, 0, Wire.frame(136, 74));
        Check.due("8 closes between parts too", desk.session(0, 0), BrokerDesk.CLOSING);
        Wire.dueOutput("and is answered", desk, 0, 138, 1, 70, 136, 1, 74);
    }

    private static void dueFault(int fault, int... row) {
        BrokerDesk desk = Wire.opened(1);
        String what = java.util.Arrays.toString(row);
        Check.due(what + ": looked at", Wire.feed(desk, 0, Wire.join(row, Wire.bytes(0, 0))), row.length);
        Check.due(what + ": fault", desk.session(0, 3), fault);
    }

    /**
     * "FAULTS, as soon as a byte is there: 2 if o is none of these, or 0 without a part before it, 1 with one, p
     * with another one than 1, bits 32 or 16 are there, or a CONTROL without f; then, if m is not there, or n is
     * 127, or above 16 for a CONTROL; a length of two bytes below 126; and 9 if the length of a part and those of
     * the parts before it together are above 200."
     */
    private static void frameFaults() {
        int[] part = Wire.frame(1, 5);
        dueFault(2, 128 + 5);
        dueFault(2, 128);
        dueFault(2, Wire.join(part, Wire.bytes(129)));
        dueFault(2, 128 + 64 + 9);
        dueFault(2, Wire.join(part, Wire.bytes(64)));
        dueFault(2, 128 + 32 + 1);
        dueFault(2, 128 + 16 + 1);
        dueFault(2, 9);
        dueFault(2, 129, 5);
        dueFault(2, 129, 128 + 127);
        dueFault(2, 137, 128 + 17);
        dueFault(2, 129, 128 + 126, 0, 125);
        dueFault(9, 129, 128 + 126, 0, 201);
        dueFault(9, Wire.join(Wire.frame(1, Wire.fill(100, 1)), Wire.bytes(0, 128 + 101)));
    }

    /** "With its last byte (that of the MASK, if there are no data) a FRAME is done." */
    private static void frameIsDone() {
        BrokerDesk desk = Wire.opened(1);
        int[] row = Wire.frame(137, 1, 2);
        Wire.feed(desk, 0, java.util.Arrays.copyOf(row, row.length - 1));
        Check.due("not yet", desk.session(0, 1), 0);
        Wire.feed(desk, 0, row[row.length - 1]);
        Check.due("with its last byte", desk.session(0, 1), 4);
        Wire.feed(desk, 0, 137, 128, 7, 7, 7);
        Check.due("not yet again", desk.session(0, 1), 4);
        Wire.feed(desk, 0, 7);
        Check.due("with the mask's last byte", desk.session(0, 1), 6);
    }

    /**
     * "9 is answered with a FRAME 10 and the same data; 8 with a FRAME 8 and the same data, and the SESSION ENDS."
     */
    private static void controlsAreAnswered() {
        BrokerDesk desk = Wire.opened(1);
        Wire.feed(desk, 0, Wire.frame(137, 4, 5, 6));
        Check.due("9: goes on", desk.session(0, 0), BrokerDesk.OPEN);
        Wire.feed(desk, 0, Wire.frame(136, 7, 8));
        Check.due("8: ends", desk.session(0, 0), BrokerDesk.CLOSING);
        Check.due("8 is no fault", desk.session(0, 3), 0);
        Wire.dueOutput("both answers", desk, 0, 138, 3, 4, 5, 6, 136, 2, 7, 8);
    }

    /** "A message that is whole is UNPACKED, becomes part of the PAST, and is done as a COMMAND." */
    private static void wholeMessage() {
        BrokerDesk desk = Wire.opened(1);
        Wire.feed(desk, 0, Wire.frame(64 + 1, 3, 3, 1));
        Check.due("not whole: no past", desk.past(0, 0), BrokerDesk.REFUSED);
        Wire.feed(desk, 0, Wire.frame(128, 0, 44, 130, 0));
        Wire.duePast("unpacked", desk, 0, 3, 1, 0, 44, 44, 44, 44, 44);
        Check.due("all of it", desk.past(0, 8), BrokerDesk.REFUSED);
        Check.due("done", desk.item(1, 0, 4), 44);
        Check.due("counted", desk.session(0, 4), 1);
    }

    /**
     * "UNPACKING: b below 128: b + 1 bytes that follow, as they are; b 128..159 and d: b - 126 bytes, each of which
     * is the one d + 1 before the end of the PAST and all that was UNPACKED, as it grows."
     */
    private static void unpacking() {
        BrokerDesk desk = Wire.opened(1);
        Wire.tell(desk, 0, 3, 0, 0, 10, 11);
        Wire.tellPacked(desk, 0, 129, 4, 0, 12, 129, 0);
        Wire.duePast("3 0 0 of the past, 12, and it three times more", desk, 0,
            3, 0, 0, 10, 11, 3, 0, 0, 12, 12, 12, 12);
        Wire.tellPacked(desk, 0, 4, 3, 0, 0, 21, 22, 131, 1);
        Wire.duePast("five bytes two before", desk, 0, 3, 0, 0, 21, 22, 21, 22, 21, 22, 21);
        dueItems("three items", desk, 0, 10, 12, 21);
    }

    private static void duePackFault(int fault, int... packed) {
        BrokerDesk desk = Wire.opened(1);
        Wire.tellPacked(desk, 0, packed);
        Check.due("fault of " + java.util.Arrays.toString(packed), desk.session(0, 3), fault);
    }

    /**
     * "FAULT 7 if b is another one, something is missing, or there is no such byte before; 9 if more than 200 come
     * out (as soon as that is so)."
     */
    private static void unpackingFaults() {
        duePackFault(0, 1, 9, 1);
        duePackFault(7, 160, 1);
        duePackFault(7, 255, 1);
        duePackFault(7, 2, 9, 1);
        duePackFault(7, 1, 9, 1, 128);
        duePackFault(7, 1, 9, 1, 128, 2);
        duePackFault(9, 1, 9, 1, 159, 0, 159, 0, 159, 0, 159, 0, 159, 0, 159, 0, 159, 0);
        duePackFault(9, 1, 9, 1, 159, 0, 159, 0, 159, 0, 159, 0, 159, 0, 159, 0, 159, 0, 255);
    }

    /** "What is not PACKED is as it is." */
    private static void notPacked() {
        BrokerDesk desk = Wire.opened(1);
        Wire.tell(desk, 0, 3, 0, 0, 128, 0, 255);
        Wire.duePast("as it is", desk, 0, 3, 0, 0, 128, 0, 255);
        Check.due("its first byte", desk.item(0, 0, 0), 128);
        Check.due("its last byte", desk.item(0, 0, 2), 255);
    }

    private static void dueCommand(int fault, int... command) {
        BrokerDesk desk = Wire.opened(1);
        Wire.tell(desk, 0, 1, 1, 0, 0, 1);
        Wire.tell(desk, 0, 6, 2);
        Wire.tell(desk, 0, command);
        String what = java.util.Arrays.toString(command);
        Check.due(what + ": fault", desk.session(0, 3), fault);
        Check.due(what + ": done", desk.session(0, 4), fault == 0 ? 3 : 2);
    }

    /**
     * "COMMANDS, by their first byte; t is a PLACE, s a SUBSCRIPTION, x a TRANSACTION that is begun or 0; FAULT 8
     * if a byte is not as said, or there are more or fewer:"
     */
    private static void commands() {
        dueCommand(0, 3, 5, 2, 1);
        dueCommand(0, 3, 5, 0, 1);
        dueCommand(8, 3, 6, 0, 1);
        dueCommand(8, 3, 5, 1, 1);
        dueCommand(8, 3, 5, 3, 1);
        dueCommand(8, 2, 4);
        dueCommand(8, 1, 4, 0, 0, 1);
        dueCommand(8, 0);
        dueCommand(8, 10);
        dueCommand(8);
        dueCommand(8, 9);
        dueCommand(8, 9, 1, 1);
    }

    /**
     * "1 s t m c: s, which is not there, is for t from now on, with MODE m (0..2) and CREDIT c (1..5)."
     * "2 s: s, which is there, ENDS."
     */
    private static void subscribing() {
        BrokerDesk desk = Wire.opened(1);
        Wire.tell(desk, 0, 1, 3, 5, 2, 4);
        Check.due("its place", desk.subscription(0, 3, 0), 5);
        Check.due("its mode", desk.subscription(0, 3, 1), 2);
        Check.due("its credit", desk.subscription(0, 3, 2), 4);
        Wire.tell(desk, 0, 2, 3);
        Check.due("it ended", desk.subscription(0, 3, 0), BrokerDesk.REFUSED);
        dueCommand(0, 1, 0, 5, 2, 5);
        dueCommand(8, 1, 1, 5, 2, 5);
        dueCommand(8, 1, 0, 5, 3, 5);
        dueCommand(8, 1, 0, 5, 2, 6);
        dueCommand(8, 1, 0, 5, 2, 0);
        dueCommand(0, 2, 1);
        dueCommand(8, 2, 0);
    }

    /** "3 t x and a BODY: it is SENT to t." */
    private static void sending() {
        BrokerDesk desk = Wire.opened(1);
        Wire.tell(desk, 0, 3, 2, 0, 31, 32);
        Check.due("sent", desk.place(2, 0), 1);
        Check.due("its body", desk.item(2, 0, 1), 32);
        dueCommand(8, 3, 2, 0);
        dueCommand(0, Wire.join(Wire.bytes(3, 2, 0), Wire.fill(16, 1)));
        dueCommand(8, Wire.join(Wire.bytes(3, 2, 0), Wire.fill(17, 1)));
    }

    /** "4 n x: TAKEN." "5 n x: REFUSED." */
    private static void takingAndRefusing() {
        BrokerDesk desk = Wire.opened(1);
        Wire.tell(desk, 0, 1, 0, 0, 1, 2);
        send(desk, 0, 0, 10, 11);
        Wire.tell(desk, 0, 4, 0, 0);
        Check.due("taken", desk.subscription(0, 0, 3), 1);
        Check.due("is given no more", desk.place(0, 1), 2);
        Wire.tell(desk, 0, 5, 1, 0);
        Check.due("refused, and given again", desk.place(0, 1), 3);
        dueCommand(0, 4, 200, 2);
        dueCommand(8, 4, 200, 1);
        dueCommand(0, 5, 200, 0);
        dueCommand(8, 5, 200);
    }

    /**
     * "6 x: TRANSACTION x (1 or 2, not begun) is begun." "7 x: (begun) all that was to be done in it is done, in
     * order." "8 x: (begun) it is dropped."
     */
    private static void transactions() {
        BrokerDesk desk = Wire.opened(1);
        Wire.tell(desk, 0, 6, 1);
        Wire.tell(desk, 0, 6, 2);
        Wire.tell(desk, 0, 3, 0, 1, 20);
        Wire.tell(desk, 0, 3, 0, 2, 30);
        Wire.tell(desk, 0, 3, 0, 1, 21);
        Wire.tell(desk, 0, 7, 1);
        dueItems("done in order", desk, 0, 20, 21);
        Wire.tell(desk, 0, 8, 2);
        dueItems("dropped", desk, 0, 20, 21);
        Check.due("none is begun any more", desk.session(0, 7), 0);
        dueCommand(0, 6, 1);
        dueCommand(8, 6, 2);
        dueCommand(8, 6, 3);
        dueCommand(0, 7, 2);
        dueCommand(8, 7, 1);
        dueCommand(0, 8, 2);
        dueCommand(8, 8, 0);
    }

    /** "9 k: the SESSION gets a message 9 k." */
    private static void asking() {
        BrokerDesk desk = Wire.opened(2);
        Wire.tell(desk, 1, 9, 200);
        Wire.dueOutput("the message", desk, 1, 129, 2, 9, 200);
        Wire.dueOutput("no other session gets it", desk, 0);
    }

    /** "3, 4, 5 with an x above 0 are kept until 7; with 6 of these kept in a SESSION: FAULT 8." */
    private static void keptUntilSeven() {
        BrokerDesk desk = Wire.opened(1);
        Wire.tell(desk, 0, 1, 0, 0, 1, 1);
        send(desk, 0, 0, 10, 11);
        Wire.tell(desk, 0, 6, 1);
        Wire.tell(desk, 0, 6, 2);
        Wire.tell(desk, 0, 3, 1, 1, 12);
        Wire.tell(desk, 0, 5, 9, 1);
        Wire.tell(desk, 0, 4, 0, 1);
        Check.due("nothing is sent", desk.place(1, 0), 0);
        Check.due("nothing is taken", desk.subscription(0, 0, 4), 0);
        for (int k = 0; k < 3; k++) {
            Wire.tell(desk, 0, 4, 9, 2);
        }
        Check.due("six are kept", desk.session(0, 6), 6);
        Wire.tell(desk, 0, 7, 1);
        Check.due("sent", desk.place(1, 0), 1);
        Check.due("taken, so the next one is given", desk.subscription(0, 0, 4), 1);
        Check.due("three are kept", desk.session(0, 6), 3);
        for (int k = 0; k < 3; k++) {
            Wire.tell(desk, 0, 4, 9, 2);
        }
        Check.due("no fault", desk.session(0, 3), 0);
        Wire.tell(desk, 0, 4, 9, 2);
        Check.due("the seventh", desk.session(0, 3), 8);
    }

    /** "SENT to a QUEUE an ITEM is its last one, but LOST if there are 8." */
    private static void sentToAQueue() {
        BrokerDesk desk = Wire.opened(1);
        send(desk, 0, 1, 1, 2, 3, 4, 5, 6, 7, 8);
        dueItems("eight", desk, 1, 1, 2, 3, 4, 5, 6, 7, 8);
        Check.due("none is lost", desk.place(1, 2), 0);
        send(desk, 0, 1, 9);
        dueItems("eight still", desk, 1, 1, 2, 3, 4, 5, 6, 7, 8);
        Check.due("one is lost", desk.place(1, 2), 1);
    }

    /** "SENT to a STREAM it is GIVEN to all SUBSCRIPTIONS for it that CAN (by SESSIONS, then by s)." */
    private static void sentToAStream() {
        BrokerDesk desk = Wire.opened(2);
        Wire.tell(desk, 1, 1, 2, 3, 0, 1);
        Wire.tell(desk, 1, 1, 0, 3, 0, 1);
        Wire.tell(desk, 0, 1, 3, 3, 1, 1);
        Wire.tell(desk, 0, 1, 1, 4, 0, 1);
        send(desk, 0, 3, 50, 51);
        Wire.dueOutput("session 0 can once", desk, 0, 129, 4, 1, 3, 0, 50);
        Wire.dueOutput("session 1, by s", desk, 1, 129, 4, 1, 0, 0, 50, 129, 4, 1, 2, 1, 50,
            129, 4, 1, 0, 2, 51, 129, 4, 1, 2, 3, 51);
        Check.due("the latest one is the last session's", desk.place(3, 3), 6);
    }

    /**
     * "A SUBSCRIPTION CAN if its SESSION is OPEN, its OUTPUT has room for the message, and its MODE is 0, or it
     * HOLDS fewer than CREDIT ITEMS."
     */
    private static void can() {
        BrokerDesk desk = Wire.opened(3);
        Wire.tell(desk, 0, 1, 0, 0, 0, 1);
        Wire.tell(desk, 1, 1, 0, 0, 1, 2);
        Check.due("both", desk.ready(0, 1), 2);
        send(desk, 2, 0, 1, 2, 3, 4);
        Check.due("one holds two", desk.subscription(1, 0, 3), 2);
        Check.due("mode 0 alone", desk.ready(0, 1), 1);
        Wire.fillOutput(desk, 0, 6);
        Check.due("room for one byte", desk.ready(0, 1), 1);
        Check.due("no room for two", desk.ready(0, 2), 0);
        Wire.drain(desk, 0);
        Check.due("room again", desk.ready(0, 16), 1);
        Wire.feed(desk, 0, Wire.frame(136));
        Check.due("not open", desk.ready(0, 1), 0);
    }

    /**
     * "GIVING: the SESSION gets a message 1 s n and the BODY, n being its next TAG (0 first, 0 behind 255); with
     * MODE 1 or 2 the SUBSCRIPTION HOLDS the ITEM with this TAG."
     */
    private static void giving() {
        BrokerDesk desk = Wire.opened(2);
        for (int s = 0; s < 3; s++) {
            Wire.tell(desk, 0, 1, s, s, s, 5);
        }
        for (int t = 0; t < 3; t++) {
            Wire.tell(desk, 1, 3, t, 0, 40 + t, 50 + t);
        }
        Wire.dueOutput("three messages", desk, 0, 129, 5, 1, 0, 0, 40, 50, 129, 5, 1, 1, 1, 41, 51,
            129, 5, 1, 2, 2, 42, 52);
        Check.due("mode 0 holds none", desk.subscription(0, 0, 4), -1);
        Check.due("mode 1 holds tag 1", desk.subscription(0, 1, 4), 1);
        Check.due("mode 2 holds tag 2", desk.subscription(0, 2, 4), 2);
        Check.due("the next tag", desk.session(0, 5), 3);
    }

    /**
     * "A QUEUE gives, as long as it has ITEMS and one for it CAN: its first one goes to the next one that CAN:
     * SUBSCRIPTIONS in a ring (4 times the SESSION, and s), on behind the one that got the latest one from this
     * QUEUE (0 at first)."
     */
    private static void queueGives() {
        BrokerDesk desk = Wire.opened(3);
        Wire.tell(desk, 0, 1, 3, 0, 1, 1);
        Wire.tell(desk, 1, 1, 1, 0, 1, 2);
        Wire.tell(desk, 2, 1, 0, 0, 1, 1);
        int[] due = {3, 5, 8, 5, 5};
        for (int k = 0; k < due.length; k++) {
            send(desk, 0, 0, k);
            Check.due("giving " + k, desk.place(0, 3), due[k]);
        }
        dueItems("none can", desk, 0, 4);
        Wire.tell(desk, 0, 4, 0, 0);
        Check.due("round the ring", desk.place(0, 3), 3);
        Wire.tell(desk, 2, 4, 0, 0);
        Wire.tell(desk, 1, 4, 0, 0);
        send(desk, 0, 0, 5);
        Check.due("on behind the latest", desk.place(0, 3), 5);
    }

    /** Modes 1 and 2 hold five items, 10 to 14, with the tags 0 to 4; there is no room to be given more. */
    private static BrokerDesk holding(int mode) {
        BrokerDesk desk = Wire.opened(2);
        Wire.tell(desk, 0, 1, 0, 0, mode, 5);
        send(desk, 1, 0, 10, 11, 12, 13, 14);
        Wire.fillOutput(desk, 0, 5);
        return desk;
    }

    /**
     * "TAKEN n: if a SUBSCRIPTION of the SESSION HOLDS an ITEM with TAG n (the oldest one that does), it does so no
     * more; with MODE 2 nor those that it HOLDS for longer."
     */
    private static void taken() {
        BrokerDesk desk = holding(1);
        Wire.tell(desk, 0, 4, 1, 0);
        Check.due("mode 1: one less", desk.subscription(0, 0, 3), 4);
        Wire.tell(desk, 0, 2, 0);
        dueItems("mode 1: the others are held", desk, 0, 10, 12, 13, 14);
        desk = holding(2);
        Wire.tell(desk, 0, 4, 1, 0);
        Check.due("mode 2: two less", desk.subscription(0, 0, 3), 3);
        Wire.tell(desk, 0, 2, 0);
        dueItems("mode 2: the younger ones are held", desk, 0, 12, 13, 14);
    }

    /**
     * "REFUSED n: likewise, and those of QUEUES (the SUBSCRIPTION's PLACE) come back, with TRIES one more: at the
     * front of it, in the order in which they were given; but with 3 TRIES, or if there are 8, they are LOST (the
     * one given last comes first to this)."
     */
    private static void refused() {
        BrokerDesk desk = holding(2);
        send(desk, 1, 0, 20, 21, 22, 23, 24, 25);
        Wire.tell(desk, 0, 5, 2, 0);
        dueItems("room for two of three", desk, 0, 11, 12, 20, 21, 22, 23, 24, 25);
        Check.due("the one given first is lost", desk.place(0, 2), 1);
        Check.due("one try", desk.place(0, 4), 1);
        desk = Wire.opened(2);
        Wire.tell(desk, 0, 1, 0, 0, 1, 1);
        send(desk, 1, 0, 30);
        Wire.tell(desk, 0, 5, 0, 0);
        Wire.tell(desk, 0, 5, 1, 0);
        Check.due("given three times", desk.place(0, 1), 3);
        Wire.tell(desk, 0, 5, 2, 0);
        Check.due("three tries", desk.place(0, 2), 1);
        Check.due("is given no more", desk.place(0, 1), 3);
        Wire.tell(desk, 0, 1, 1, 4, 1, 1);
        send(desk, 1, 4, 40);
        Wire.tell(desk, 0, 5, 3, 0);
        Check.due("a stream's is held no more", desk.subscription(0, 1, 3), 0);
        Check.due("and does not come back", desk.place(4, 0) + desk.place(0, 0), 0);
    }

    /** "If none HOLDS such a one nothing happens." */
    private static void noneHolds() {
        BrokerDesk desk = holding(2);
        for (int op = 4; op <= 5; op++) {
            Wire.tell(desk, 0, op, 5, 0);
            Wire.tell(desk, 1, op, 1, 0);
        }
        Check.due("all are held", desk.subscription(0, 0, 3), 5);
        Check.due("no fault", desk.session(0, 3) + desk.session(1, 3), 0);
        dueItems("none came back", desk, 0);
    }

    /**
     * "A SUBSCRIPTION that ENDS HOLDS nothing any more: what it HELD comes back likewise, but with no TRIES more
     * (so that 8 alone matter)."
     */
    private static void subscriptionEnds() {
        BrokerDesk desk = holding(1);
        send(desk, 1, 0, 20, 21, 22, 23, 24, 25);
        Wire.tell(desk, 0, 2, 0);
        dueItems("room for two of five", desk, 0, 13, 14, 20, 21, 22, 23, 24, 25);
        Check.due("three are lost", desk.place(0, 2), 3);
        Check.due("no tries", desk.place(0, 4), 0);
    }

    /**
     * "A SESSION that ENDS is CLOSING: all its SUBSCRIPTIONS END, from 0 on, TRANSACTIONS are dropped, INPUT is not
     * looked at."
     */
    private static void sessionEnds() {
        BrokerDesk desk = Wire.opened(2);
        Wire.tell(desk, 0, 1, 0, 0, 1, 1);
        Wire.tell(desk, 0, 1, 1, 0, 1, 1);
        send(desk, 1, 0, 10, 11);
        Wire.tell(desk, 0, 6, 1);
        Wire.tell(desk, 0, 3, 1, 1, 12);
        int[] close = Wire.frame(136);
        Check.due("no more is looked at", Wire.feed(desk, 0, Wire.join(close, Wire.frame(137))), close.length);
        Check.due("closing", desk.session(0, 0), BrokerDesk.CLOSING);
        Check.due("0 ended", desk.subscription(0, 0, 0), BrokerDesk.REFUSED);
        Check.due("1 ended", desk.subscription(0, 1, 0), BrokerDesk.REFUSED);
        dueItems("0 before 1, each to the front", desk, 0, 11, 10);
        Check.due("dropped", desk.session(0, 6) + desk.session(0, 7) + desk.place(1, 0), 0);
        Check.due("nor is it later", desk.feed(0, 137, 1), BrokerDesk.REFUSED);
    }

    /** "A FAULT c: a FRAME 8 with the byte c is written, and the SESSION ENDS." */
    private static void fault() {
        BrokerDesk desk = Wire.opened(4);
        Wire.feed(desk, 0, 2);
        Wire.tellPacked(desk, 1, 255);
        Wire.tell(desk, 2, 255);
        Wire.feed(desk, 3, 129, 254, 0, 255);
        int[] due = {2, 7, 8, 9};
        for (int session = 0; session < 4; session++) {
            Wire.dueOutput("fault " + due[session], desk, session, 136, 1, due[session]);
            Check.due("it ends", desk.session(session, 0), BrokerDesk.CLOSING);
        }
    }

    /**
     * "WRITTEN are FRAMES with f, without p and m (messages as 1), to the end of the OUTPUT; one for which there is
     * no room is not written (nor what 9, a CONTROL, a FAULT would say)."
     */
    private static void written() {
        BrokerDesk desk = Wire.opened(1);
        Wire.tell(desk, 0, 9, 5);
        Wire.feed(desk, 0, Wire.frame(137, 6));
        Wire.dueOutput("128 + 1, 128 + 10, and lengths alone", desk, 0, 129, 2, 9, 5, 138, 1, 6);
        Wire.fillOutput(desk, 0, 2);
        Wire.tell(desk, 0, 9, 7);
        Wire.feed(desk, 0, Wire.frame(137, 8));
        Check.due("no room", desk.session(0, 1), 238);
        Wire.feed(desk, 0, Wire.frame(137));
        Check.due("room for two bytes", desk.session(0, 1), 240);
        Wire.feed(desk, 0, 2);
        Check.due("no room for the fault", desk.session(0, 1), 240);
        Check.due("which is there even so", desk.session(0, 3), 2);
    }

    /**
     * "Behind each byte of INPUT that was looked at, and at the end of each call that changes something, QUEUES
     * give, from 0 on."
     */
    private static void whenQueuesGive() {
        BrokerDesk desk = Wire.opened(2);
        Wire.tell(desk, 0, 1, 0, 1, 0, 1);
        Wire.tell(desk, 0, 1, 1, 0, 1, 1);
        send(desk, 1, 1, 10);
        Check.due("behind the command's last byte", desk.session(0, 1), 6);
        Wire.fillOutput(desk, 0, 5);
        send(desk, 1, 1, 11);
        send(desk, 1, 0, 12);
        Check.due("no room", desk.place(0, 0) + desk.place(1, 0), 2);
        desk.take(0, 1);
        Check.due("at the end of take", desk.place(0, 0), 0);
        Check.due("queue 0 before queue 1", desk.place(1, 0), 1);
        Wire.tell(desk, 1, 1, 0, 0, 0, 1);
        desk.shut(0);
        Check.due("at the end of shut", desk.session(1, 5), 1);
        Wire.dueOutput("what came back", desk, 1, 129, 4, 1, 0, 0, 12);
    }
}
