/** The sentences of the promises 1 and 8 to 11 that name a bound, or what there is if there is none. */
public final class AskingEdgesTest {
    public static void main(String[] args) {
        newObject();
        shutOnes();
        closingOnes();
        bytesOfData();
        latestFault();
        whichAreBegun();
        oldestTag();
        placesOfStreams();
        latestOfTheRing();
        triesOfTheFirst();
        itemsFirstAndLast();
        sessionsApart();
        Check.end();
    }

    private static void send(BrokerDesk desk, int session, int t, int... body) {
        Wire.tell(desk, session, Wire.join(Wire.bytes(3, t, 0), body));
    }

    /** "All SESSIONS are SHUT, QUEUES are empty." */
    private static void newObject() {
        BrokerDesk desk = new BrokerDesk();
        for (int session = 0; session < 4; session++) {
            Check.due("SHUT", desk.session(session, 0), BrokerDesk.SHUT);
            Check.due("not to be shut", desk.shut(session), false);
        }
        for (int t = 0; t < 3; t++) {
            Check.due("no ITEMS", desk.place(t, 0), 0);
            Check.due("no first one", desk.item(t, 0, 0), -1);
        }
        for (int session = 0; session < 4; session++) {
            Check.due("to be opened", desk.open(session), true);
            Check.due("OPEN", desk.session(session, 0), BrokerDesk.OPEN);
        }
        BrokerDesk other = new BrokerDesk();
        send(desk, 0, 0, 1);
        Check.due("another object is another one", other.place(0, 0), 0);
        Check.due("and has its own SESSIONS", other.session(0, 0), BrokerDesk.SHUT);
    }

    /** A session of which all that can be asked is other than 0, with a part that is not whole. */
    private static BrokerDesk full() {
        BrokerDesk desk = Wire.opened(2);
        Wire.tell(desk, 0, 1, 0, 3, 1, 5);
        send(desk, 0, 3, 1);
        Wire.tell(desk, 0, 6, 1);
        Wire.tell(desk, 0, 6, 2);
        Wire.tell(desk, 0, 3, 0, 2, 1);
        Wire.feed(desk, 0, Wire.frame(1, 1, 2, 3));
        int[] due = {BrokerDesk.OPEN, 6, 3, 0, 5, 1, 1, 3};
        for (int what = 0; what < 8; what++) {
            Check.due("session(0, " + what + ")", desk.session(0, what), due[what]);
        }
        return desk;
    }

    /** "of SHUT ones all are 0" */
    private static void shutOnes() {
        for (int way = 0; way < 2; way++) {
            BrokerDesk desk = full();
            if (way == 1) {
                Wire.feed(desk, 0, 2);
            }
            desk.shut(0);
            for (int what = 0; what < 8; what++) {
                Check.due("SHUT, session(0, " + what + ")", desk.session(0, what), 0);
            }
        }
    }

    /** "of CLOSING ones 2, 6 and 7" (are 0) */
    private static void closingOnes() {
        for (int way = 0; way < 3; way++) {
            BrokerDesk desk = full();
            if (way == 0) {
                Wire.feed(desk, 0, Wire.frame(136, 7));
            } else if (way == 1) {
                Wire.feed(desk, 0, 2);
            } else {
                Wire.feed(desk, 0, Wire.bytes(0, 128 + 126, 0, 198));
            }
            int[] due = {BrokerDesk.CLOSING, 9, 0, way == 0 ? 0 : way == 1 ? 2 : 9, 5, 1, 0, 0};
            for (int what = 0; what < 8; what++) {
                Check.due("CLOSING, session(0, " + what + ")", desk.session(0, what), due[what]);
            }
        }
    }

    /** "2: bytes of data that came of a message that is not whole" */
    private static void bytesOfData() {
        BrokerDesk desk = Wire.opened(1);
        int[] row = Wire.join(Wire.frame(1, 3, 0), Wire.frame(137, 1, 2), Wire.frame(0), Wire.frame(128, 0, 7));
        int[] due = {0, 0, 0, 0, 0, 0, 1, 2,  2, 2, 2, 2, 2, 2, 2, 2,  2, 2, 2, 2, 2, 2,  2, 2, 2, 2, 2, 2, 3, 0};
        Check.due("none at first", desk.session(0, 2), 0);
        for (int k = 0; k < row.length; k++) {
            Wire.feed(desk, 0, row[k]);
            Check.due("behind byte " + k, desk.session(0, 2), due[k]);
        }
        desk = Wire.opened(1);
        Wire.feed(desk, 0, Wire.frame(1, Wire.fill(200, 1)));
        Check.due("the most", desk.session(0, 2), 200);
    }

    /** "3: the latest FAULT since it opened (0 none)" */
    private static void latestFault() {
        int[][] ways = {{2}, Wire.frame(193, 160), Wire.frame(129, 10), {129, 254, 0, 201}};
        int[] faults = {2, 7, 8, 9};
        BrokerDesk desk = new BrokerDesk();
        for (int way = 0; way < ways.length; way++) {
            Check.due("0 while it is SHUT", desk.session(0, 3), 0);
            desk.open(0);
            Check.due("none since it opened", desk.session(0, 3), 0);
            Wire.tell(desk, 0, 4, 0, 0);
            Check.due("none yet", desk.session(0, 3), 0);
            Wire.feed(desk, 0, ways[way]);
            Check.due("the latest one", desk.session(0, 3), faults[way]);
            Check.due("of this one alone", desk.session(1, 3), 0);
            desk.shut(0);
        }
    }

    /** "7: which are begun (1 for 1, 2 for 2, together)" */
    private static void whichAreBegun() {
        BrokerDesk desk = Wire.opened(1);
        int[][] commands = {{6, 1}, {8, 1}, {6, 2}, {6, 1}, {7, 2}, {6, 2}, {7, 1}, {8, 2}};
        int[] due = {1, 0, 2, 3, 1, 3, 2, 0};
        Check.due("none at first", desk.session(0, 7), 0);
        for (int k = 0; k < commands.length; k++) {
            Wire.tell(desk, 0, commands[k]);
            Check.due("behind COMMAND " + k, desk.session(0, 7), due[k]);
        }
    }

    /** "3: how many ITEMS it HOLDS, 4: the oldest one's TAG, or -1" */
    private static void oldestTag() {
        for (int t : new int[] {0, 3}) {
            BrokerDesk desk = Wire.opened(1);
            Wire.tell(desk, 0, 1, 2, t, 1, 5);
            Check.due("none", desk.subscription(0, 2, 3), 0);
            Check.due("none is the oldest", desk.subscription(0, 2, 4), -1);
            for (int k = 0; k < 5; k++) {
                send(desk, 0, t, k);
                Check.due("as many", desk.subscription(0, 2, 3), k + 1);
                Check.due("the oldest", desk.subscription(0, 2, 4), 0);
            }
            for (int k = 0; k < 5; k++) {
                Wire.tell(desk, 0, 4, k, 0);
                Check.due("one less", desk.subscription(0, 2, 3), 4 - k);
                Check.due("the oldest", desk.subscription(0, 2, 4), k < 4 ? k + 1 : -1);
            }
        }
    }

    /** "0: ITEMS there (0 for STREAMS)" */
    private static void placesOfStreams() {
        for (int t = 3; t < 6; t++) {
            BrokerDesk desk = Wire.opened(1);
            Wire.tell(desk, 0, 1, 1, t, 2, 2);
            for (int k = 0; k < 3; k++) {
                send(desk, 0, t, k);
                Check.due("none there", desk.place(t, 0), 0);
                Check.due("GIVEN", desk.place(t, 1), Math.min(2, k + 1));
                Check.due("none is LOST", desk.place(t, 2), 0);
                Check.due("TRIES of none", desk.place(t, 4), 0);
                Check.due("no ITEM", desk.item(t, 0, 0), -1);
            }
            Wire.tell(desk, 0, 5, 1, 0);
            Check.due("REFUSED: none there", desk.place(t, 0), 0);
            Check.due("REFUSED: none is LOST", desk.place(t, 2), 0);
            Check.due("REFUSED: TRIES of none", desk.place(t, 4), 0);
        }
    }

    /** "3: the ring's number that got the latest one (-1 none; of STREAMS too)" */
    private static void latestOfTheRing() {
        for (int t = 0; t < 6; t++) {
            for (int ring = 0; ring < 16; ring++) {
                BrokerDesk desk = Wire.opened(4);
                send(desk, 0, 3, 1);
                Wire.tell(desk, ring / 4, 1, ring % 4, t, 0, 1);
                Check.due("none got one", desk.place(t, 3), -1);
                send(desk, 0, t, 1);
                for (int other = 0; other < 6; other++) {
                    Check.due("ring " + ring + ", PLACE " + other, desk.place(other, 3), other == t ? ring : -1);
                }
            }
        }
    }

    /** "4: TRIES of the first ITEM (0 without one)" */
    private static void triesOfTheFirst() {
        BrokerDesk desk = Wire.opened(2);
        Check.due("without one", desk.place(0, 4), 0);
        Wire.tell(desk, 0, 1, 0, 0, 1, 1);
        send(desk, 1, 0, 10);
        send(desk, 1, 0, 11);
        Check.due("of a new one", desk.place(0, 4), 0);
        Wire.fillOutput(desk, 0, 5);
        Wire.tell(desk, 0, 5, 0, 0);
        Check.due("of one that was REFUSED", desk.place(0, 4), 1);
        Wire.drain(desk, 0);
        Check.due("it was GIVEN again, so of the next one", desk.place(0, 4), 0);
        Check.due("which is there", desk.item(0, 0, 0), 11);
        Wire.fillOutput(desk, 0, 5);
        Wire.tell(desk, 0, 5, 1, 0);
        Check.due("of one that was REFUSED twice", desk.place(0, 4), 2);
        Wire.tell(desk, 0, 2, 0);
        Wire.drain(desk, 0);
        Wire.tell(desk, 0, 1, 0, 0, 0, 1);
        Check.due("without one again", desk.place(0, 4), 0);
        Check.due("none is there", desk.place(0, 0), 0);
    }

    /** "Byte k of the BODY of ITEM i (0 the first) of a QUEUE" */
    private static void itemsFirstAndLast() {
        for (int t = 0; t < 3; t++) {
            BrokerDesk desk = Wire.opened(1);
            for (int i = 0; i < 8; i++) {
                Check.due("not there yet", desk.item(t, i, 0), -1);
                send(desk, 0, t, Wire.count(2 * i + 1, 20 * i));
            }
            for (int i = 0; i < 8; i++) {
                Check.due("the first byte", desk.item(t, i, 0), 20 * i);
                Check.due("the last byte", desk.item(t, i, 2 * i), 22 * i);
                Check.due("behind it", desk.item(t, i, 2 * i + 1), -1);
                Check.due("before the first", desk.item(t, i, -1), -1);
            }
            Check.due("before the first ITEM", desk.item(t, -1, 0), -1);
            Check.due("behind the last ITEM", desk.item(t, 8, 0), -1);
        }
    }

    /** "SESSIONS 0..3 are SHUT (at first), OPEN or CLOSING.": each for itself. */
    private static void sessionsApart() {
        for (int session = 0; session < 4; session++) {
            BrokerDesk desk = new BrokerDesk();
            desk.open(session);
            Wire.feed(desk, session, Wire.frame(1, 9));
            for (int other = 0; other < 4; other++) {
                Check.due("OPEN or not", desk.session(other, 0), other == session ? BrokerDesk.OPEN : BrokerDesk.SHUT);
                Check.due("its data", desk.session(other, 2), other == session ? 1 : 0);
                desk.open(other);
            }
            Wire.feed(desk, session, 2);
            for (int other = 0; other < 4; other++) {
                boolean that = other == session;
                Check.due("CLOSING or not", desk.session(other, 0), that ? BrokerDesk.CLOSING : BrokerDesk.OPEN);
                Check.due("its FAULT", desk.session(other, 3), that ? 2 : 0);
                Check.due("its OUTPUT", desk.session(other, 1), that ? 3 : 0);
            }
        }
    }
}
