/** The sentences on PLACES, what is SENT, who CAN, and GIVING that name a bound: each on both of its sides. */
public final class GivingEdgesTest {
    public static void main(String[] args) {
        queuesAndStreams();
        eightItems();
        lostWithinATransaction();
        streamsKeepNothing();
        streamsGiveBySessions();
        onlyOpenOnes();
        roomForTheMessage();
        roomForTheFirstItem();
        modeZeroNeedsNoCredit();
        fewerThanCredit();
        creditOfEach();
        tagsGoRound();
        tagsOfASession();
        heldAcrossTheWrap();
        ringGoesRound();
        ringBeginsAt0();
        ringOfEachQueue();
        asLongAsOneCan();
        behindEachByte();
        atTheEndOfACall();
        fromQueue0On();
        givenAgainCounts();
        streamAsksInTurn();
        readyOfMany();
        Check.end();
    }

    private static void subscribe(BrokerDesk desk, int session, int s, int t, int mode, int credit) {
        Wire.tell(desk, session, 1, s, t, mode, credit);
    }

    private static void send(BrokerDesk desk, int session, int t, int... body) {
        Wire.tell(desk, session, Wire.join(Wire.bytes(3, t, 0), body));
    }

    private static void dueItems(String what, BrokerDesk desk, int t, int... want) {
        Check.due(what + ": items", desk.place(t, 0), want.length);
        for (int i = 0; i < want.length; i++) {
            Check.due(what + ": item " + i, desk.item(t, i, 0), want[i]);
        }
        Check.due(what + ": behind the last one", desk.item(t, want.length, 0), -1);
    }

    /** "PLACES 0..2 are QUEUES, rows of at most 8 ITEMS, 3..5 are STREAMS." */
    private static void queuesAndStreams() {
        for (int t = 0; t < 6; t++) {
            BrokerDesk desk = Wire.opened(1);
            send(desk, 0, t, 50 + t);
            for (int other = 0; other < 6; other++) {
                boolean there = other == t && t <= 2;
                Check.due("SENT to " + t + ", items of " + other, desk.place(other, 0), there ? 1 : 0);
                Check.due("SENT to " + t + ", item of " + other, desk.item(other, 0, 0), there ? 50 + t : -1);
            }
        }
    }

    /** "SENT to a QUEUE an ITEM is its last one, but LOST if there are 8." */
    private static void eightItems() {
        for (int t = 0; t < 3; t++) {
            BrokerDesk desk = Wire.opened(1);
            Check.due("empty", desk.item(t, 0, 0), -1);
            Check.due("TRIES of none", desk.place(t, 4), 0);
            for (int k = 0; k < 7; k++) {
                send(desk, 0, t, k);
            }
            dueItems("seven", desk, t, 0, 1, 2, 3, 4, 5, 6);
            send(desk, 0, t, 7);
            dueItems("eight", desk, t, 0, 1, 2, 3, 4, 5, 6, 7);
            Check.due("none is LOST", desk.place(t, 2), 0);
            send(desk, 0, t, 8);
            dueItems("the ninth is LOST", desk, t, 0, 1, 2, 3, 4, 5, 6, 7);
            Check.due("one is LOST", desk.place(t, 2), 1);
            send(desk, 0, (t + 1) % 3, 9);
            dueItems("another QUEUE has room", desk, (t + 1) % 3, 9);
            subscribe(desk, 0, 0, t, 1, 1);
            send(desk, 0, t, 10);
            dueItems("when the first one is GIVEN there is room", desk, t, 1, 2, 3, 4, 5, 6, 7, 10);
            Check.due("one is LOST still", desk.place(t, 2), 1);
        }
    }

    /** All of a TRANSACTION is done before QUEUES give: what finds 8 is LOST, though one CAN by then. */
    private static void lostWithinATransaction() {
        for (int there = 6; there <= 8; there++) {
            BrokerDesk desk = Wire.opened(2);
            subscribe(desk, 0, 0, 0, 1, 1);
            for (int k = 0; k <= there; k++) {
                send(desk, 1, 0, k);
            }
            Check.due("wait", desk.place(0, 0), there);
            Wire.tell(desk, 0, 6, 1);
            Wire.tell(desk, 0, 4, 0, 1);
            Wire.tell(desk, 0, 3, 0, 1, 98);
            Wire.tell(desk, 0, 3, 0, 1, 99);
            Wire.tell(desk, 0, 7, 1);
            int[] last = {99, 98, 8};
            Check.due("with " + there + ": LOST", desk.place(0, 2), there - 6);
            Check.due("with " + there + ": then one is GIVEN", desk.subscription(0, 0, 4), 1);
            Check.due("with " + there + ": the others wait", desk.place(0, 0), 7);
            Check.due("with " + there + ": the last one", desk.item(0, 6, 0), last[there - 6]);
        }
    }

    /** A STREAM has no row: what none CAN take is neither kept nor LOST. */
    private static void streamsKeepNothing() {
        for (int t = 3; t < 6; t++) {
            BrokerDesk desk = Wire.opened(1);
            for (int k = 0; k < 9; k++) {
                send(desk, 0, t, k);
            }
            int[] due = {0, 0, 0, -1, 0};
            for (int what = 0; what < 5; what++) {
                Check.due("place(" + t + ", " + what + ")", desk.place(t, what), due[what]);
            }
            subscribe(desk, 0, 0, t, 1, 5);
            Check.due("nothing waited", desk.session(0, 5), 0);
        }
    }

    /** "GIVEN to all SUBSCRIPTIONS for it that CAN (by SESSIONS, then by s)": all sixteen. */
    private static void streamsGiveBySessions() {
        BrokerDesk desk = Wire.opened(4);
        for (int ring = 15; ring >= 0; ring--) {
            subscribe(desk, ring / 4, ring % 4, 5, ring % 3, 1);
        }
        send(desk, 2, 5, 77);
        Check.due("sixteen givings", desk.place(5, 1), 16);
        Check.due("the last of them", desk.place(5, 3), 15);
        for (int session = 0; session < 4; session++) {
            Wire.dueOutput("session " + session, desk, session, 129, 4, 1, 0, 0, 77, 129, 4, 1, 1, 1, 77,
                129, 4, 1, 2, 2, 77, 129, 4, 1, 3, 3, 77);
            Check.due("next TAG", desk.session(session, 5), 4);
        }
        send(desk, 2, 5, 78);
        Check.due("those of MODE 0 CAN again", desk.place(5, 1), 16 + 6);
        Check.due("the last of them too", desk.place(5, 3), 15);
    }

    /** "A SUBSCRIPTION CAN if its SESSION is OPEN" */
    private static void onlyOpenOnes() {
        BrokerDesk desk = Wire.opened(3);
        for (int session = 0; session < 2; session++) {
            subscribe(desk, session, 0, 0, 0, 1);
            subscribe(desk, session, 1, 3, 0, 1);
        }
        Check.due("two", desk.ready(0, 1), 2);
        Wire.feed(desk, 0, Wire.frame(136));
        Check.due("one", desk.ready(0, 1), 1);
        Check.due("one for the STREAM", desk.ready(3, 1), 1);
        send(desk, 2, 0, 1);
        send(desk, 2, 3, 2);
        Wire.dueOutput("a CLOSING one gets nothing", desk, 0, 136, 0);
        Check.due("the OPEN one does", desk.session(1, 5), 2);
        desk.shut(1);
        Check.due("none", desk.ready(0, 1), 0);
        send(desk, 2, 0, 3);
        dueItems("it waits", desk, 0, 3);
    }

    /** "its OUTPUT has room for the message": 2 bytes before it, 3 bytes, and the BODY. */
    private static void roomForTheMessage() {
        for (int n = 1; n <= 16; n++) {
            for (int t : new int[] {0, 3}) {
                for (int less = 0; less <= 1; less++) {
                    for (int mode = 0; mode <= 1; mode++) {
                        BrokerDesk desk = Wire.opened(2);
                        subscribe(desk, 0, 2, t, mode, 5);
                        Wire.fillOutput(desk, 0, 5 + n - less);
                        String what = "BODY of " + n + ", room " + (5 + n - less) + ", place " + t;
                        Check.due(what + ": ready", desk.ready(t, n), 1 - less);
                        send(desk, 1, t, Wire.fill(n, 88));
                        Check.due(what + ": GIVEN", desk.place(t, 1), 1 - less);
                        Check.due(what + ": bytes", desk.session(0, 1), less == 0 ? 240 : 235 - n + 1);
                        Check.due(what + ": next TAG", desk.session(0, 5), 1 - less);
                        Check.due(what + ": HOLDS", desk.subscription(0, 2, 3), mode == 1 ? 1 - less : 0);
                        Check.due(what + ": waits", desk.place(t, 0), t == 0 ? less : 0);
                        Check.due(what + ": LOST", desk.place(t, 2), 0);
                        if (less == 0) {
                            Check.due(what + ": its last byte", desk.output(0, 239), 88);
                            Check.due(what + ": its first byte", desk.output(0, 240 - 5 - n), 129);
                            Check.due(what + ": its length", desk.output(0, 241 - 5 - n), 3 + n);
                        }
                    }
                }
            }
        }
    }

    /** "its first one goes to the next one that CAN": it is the first one that needs room, not a shorter one. */
    private static void roomForTheFirstItem() {
        BrokerDesk desk = Wire.opened(2);
        subscribe(desk, 0, 0, 0, 0, 1);
        Wire.fillOutput(desk, 0, 6);
        send(desk, 1, 0, 1, 1);
        send(desk, 1, 0, 2);
        dueItems("the second waits though there is room for it", desk, 0, 1, 2);
        desk.take(0, 1);
        dueItems("the first is GIVEN", desk, 0, 2);
        desk.take(0, 6);
        dueItems("the second is GIVEN", desk, 0);
    }

    /** "and its MODE is 0, or it HOLDS fewer than CREDIT ITEMS" */
    private static void modeZeroNeedsNoCredit() {
        for (int t : new int[] {0, 3}) {
            BrokerDesk desk = Wire.opened(2);
            subscribe(desk, 0, 0, t, 0, 1);
            for (int k = 0; k < 7; k++) {
                send(desk, 1, t, k);
                Check.due("ready", desk.ready(t, 1), 1);
            }
            Check.due("all are GIVEN", desk.place(t, 1), 7);
            Check.due("none is held", desk.subscription(0, 0, 3), 0);
            Check.due("so none is the oldest", desk.subscription(0, 0, 4), -1);
        }
    }

    /** "it HOLDS fewer than CREDIT ITEMS" */
    private static void fewerThanCredit() {
        for (int credit = 1; credit <= 5; credit++) {
            for (int mode = 1; mode <= 2; mode++) {
                for (int t : new int[] {0, 3}) {
                    BrokerDesk desk = Wire.opened(2);
                    subscribe(desk, 0, 3, t, mode, credit);
                    String what = "CREDIT " + credit + ", MODE " + mode + ", place " + t;
                    for (int k = 0; k < credit; k++) {
                        Check.due(what + ": CAN", desk.ready(t, 16), 1);
                        send(desk, 1, t, k);
                        Check.due(what + ": HOLDS", desk.subscription(0, 3, 3), k + 1);
                    }
                    Check.due(what + ": CAN not", desk.ready(t, 1), 0);
                    send(desk, 1, t, 99);
                    Check.due(what + ": HOLDS no more", desk.subscription(0, 3, 3), credit);
                    Check.due(what + ": GIVEN", desk.place(t, 1), credit);
                    Wire.tell(desk, 0, 4, 0, 0);
                    Check.due(what + ": then the next one of a QUEUE", desk.place(t, 1), credit + (t == 0 ? 1 : 0));
                }
            }
        }
    }

    /** CREDIT is of a SUBSCRIPTION: others of the same SESSION and the same PLACE have their own. */
    private static void creditOfEach() {
        BrokerDesk desk = Wire.opened(2);
        for (int s = 0; s < 4; s++) {
            subscribe(desk, 0, s, 1, 1 + s % 2, 1 + s);
        }
        for (int k = 0; k < 11; k++) {
            send(desk, 1, 1, k);
        }
        for (int s = 0; s < 4; s++) {
            Check.due("HOLDS", desk.subscription(0, s, 3), 1 + s);
        }
        dueItems("one waits", desk, 1, 10);
    }

    /** Brings the next TAG of session 0 to n, which is even, by a STREAM for three, then two, with MODE 0. */
    private static void bringTagTo(BrokerDesk desk, int n) {
        for (int s = 1; s <= 3; s++) {
            subscribe(desk, 0, s, 4, 0, 1);
        }
        int sends = n / 3;
        int[] frame = Wire.frame(129, 3, 4, 0, 1);
        while (sends > 0) {
            int now = Math.min(13, sends);
            int[] row = {};
            for (int k = 0; k < now; k++) {
                row = Wire.join(row, frame);
            }
            Wire.feed(desk, 0, row);
            Wire.drain(desk, 0);
            sends -= now;
        }
        Wire.tell(desk, 0, 2, 3);
        if (n % 3 == 1) {
            Wire.tell(desk, 0, 2, 2);
        }
        if (n % 3 != 0) {
            Wire.feed(desk, 0, frame);
            Wire.drain(desk, 0);
        }
        Check.due("the TAG was brought to it", desk.session(0, 5), n);
    }

    /** "n being its next TAG (0 first, 0 behind 255)" */
    private static void tagsGoRound() {
        BrokerDesk desk = Wire.opened(1);
        Check.due("0 first", desk.session(0, 5), 0);
        bringTagTo(desk, 254);
        subscribe(desk, 0, 0, 3, 1, 5);
        int[] tags = {254, 255, 0, 1};
        for (int k = 0; k < 4; k++) {
            Check.due("next TAG", desk.session(0, 5), tags[k]);
            send(desk, 0, 3, 60);
            Check.due("the message tells it", desk.output(0, 6 * k + 4), tags[k]);
        }
        Check.due("next TAG", desk.session(0, 5), 2);
        for (int k = 0; k < 4; k++) {
            Check.due("the oldest one's", desk.subscription(0, 0, 4), tags[k]);
            Wire.tell(desk, 0, 4, tags[k], 0);
            Check.due("it was TAKEN", desk.subscription(0, 0, 3), 3 - k);
        }
        Check.due("256 and 2 were GIVEN", desk.place(3, 1) + desk.place(4, 1), 258);
    }

    /** "its next TAG": the SESSION's, over all its SUBSCRIPTIONS, and no other SESSION's. */
    private static void tagsOfASession() {
        BrokerDesk desk = Wire.opened(2);
        subscribe(desk, 0, 0, 0, 1, 5);
        subscribe(desk, 0, 3, 3, 2, 5);
        subscribe(desk, 1, 0, 3, 1, 5);
        send(desk, 0, 3, 1);
        send(desk, 0, 0, 2);
        send(desk, 0, 3, 3);
        Check.due("three", desk.session(0, 5), 3);
        Check.due("two", desk.session(1, 5), 2);
        Check.due("the QUEUE's one", desk.subscription(0, 0, 4), 1);
        Wire.tell(desk, 0, 2, 0);
        Check.due("a SUBSCRIPTION that ENDS changes none", desk.session(0, 5), 3);
        desk.shut(0);
        Check.due("0 of a SHUT one", desk.session(0, 5), 0);
        desk.open(0);
        subscribe(desk, 0, 1, 0, 1, 1);
        Check.due("0 first again", desk.subscription(0, 1, 4), 0);
    }

    /** MODE 2 goes by how long an ITEM is held, not by its TAG's number: 0 is younger than 255 then. */
    private static void heldAcrossTheWrap() {
        for (int op = 4; op <= 5; op++) {
            BrokerDesk desk = Wire.opened(2);
            bringTagTo(desk, 254);
            subscribe(desk, 0, 0, 0, 2, 5);
            for (int k = 0; k < 5; k++) {
                send(desk, 1, 0, 10 + k);
            }
            Check.due("five are held", desk.subscription(0, 0, 3), 5);
            Wire.fillOutput(desk, 0, 5);
            Wire.tell(desk, 0, op, 0, 0);
            Check.due("254, 255 and 0 are held no more", desk.subscription(0, 0, 3), 2);
            Check.due("1 is the oldest", desk.subscription(0, 0, 4), 1);
            if (op == 5) {
                dueItems("they came back in order", desk, 0, 10, 11, 12);
            } else {
                dueItems("none came back", desk, 0);
            }
        }
    }

    /** "SUBSCRIPTIONS in a ring (4 times the SESSION, and s), on behind the one that got the latest one" */
    private static void ringGoesRound() {
        BrokerDesk desk = Wire.opened(4);
        for (int ring = 0; ring < 16; ring++) {
            subscribe(desk, ring / 4, ring % 4, 2, 0, 1);
        }
        for (int k = 0; k < 35; k++) {
            send(desk, 0, 2, k);
            Check.due("giving " + k, desk.place(2, 3), k % 16);
        }
        desk = Wire.opened(4);
        subscribe(desk, 3, 3, 2, 0, 1);
        subscribe(desk, 0, 0, 2, 0, 1);
        int[] order = {0, 15, 0, 15};
        for (int k = 0; k < 4; k++) {
            send(desk, 1, 2, k);
            Check.due("the first and the last of the ring, " + k, desk.place(2, 3), order[k]);
        }
        desk = Wire.opened(4);
        subscribe(desk, 3, 3, 2, 0, 1);
        for (int k = 0; k < 3; k++) {
            send(desk, 1, 2, k);
            Check.due("one alone gets each, " + k, desk.place(2, 3), 15);
        }
        subscribe(desk, 3, 2, 2, 0, 1);
        send(desk, 1, 2, 3);
        Check.due("all round to the one before", desk.place(2, 3), 14);
    }

    /** "(0 at first)" */
    private static void ringBeginsAt0() {
        for (int first = 0; first < 16; first++) {
            BrokerDesk desk = Wire.opened(4);
            for (int ring = 15; ring >= first; ring--) {
                subscribe(desk, ring / 4, ring % 4, 0, 1, 1);
            }
            Check.due("none yet", desk.place(0, 3), -1);
            send(desk, 0, 0, 1);
            Check.due("the first from 0 on", desk.place(0, 3), first);
        }
    }

    /** "the latest one from this QUEUE" */
    private static void ringOfEachQueue() {
        BrokerDesk desk = Wire.opened(1);
        for (int s = 0; s < 2; s++) {
            subscribe(desk, 0, s, 0, 0, 1);
            subscribe(desk, 0, s + 2, 1, 0, 1);
        }
        send(desk, 0, 0, 1);
        Check.due("of 0", desk.place(0, 3), 0);
        send(desk, 0, 1, 2);
        Check.due("of 1", desk.place(1, 3), 2);
        send(desk, 0, 0, 3);
        Check.due("of 0 again", desk.place(0, 3), 1);
        send(desk, 0, 1, 4);
        Check.due("of 1 again", desk.place(1, 3), 3);
        Check.due("none of 2", desk.place(2, 3), -1);
        Wire.tell(desk, 0, 2, 1);
        Check.due("it is told though that one is there no more", desk.place(0, 3), 1);
        desk.shut(0);
        Check.due("nor its SESSION", desk.place(0, 3), 1);
        desk.open(0);
        subscribe(desk, 0, 0, 0, 0, 1);
        subscribe(desk, 0, 1, 0, 0, 1);
        subscribe(desk, 0, 2, 0, 0, 1);
        send(desk, 0, 0, 5);
        Check.due("and the ring goes on behind it", desk.place(0, 3), 2);
    }

    /** "A QUEUE gives, as long as it has ITEMS and one for it CAN" */
    private static void asLongAsOneCan() {
        for (int credit = 1; credit <= 5; credit++) {
            BrokerDesk desk = Wire.opened(1);
            for (int k = 0; k < 8; k++) {
                send(desk, 0, 0, k);
            }
            subscribe(desk, 0, 0, 0, 1, credit);
            Check.due("as many as CREDIT at once", desk.place(0, 1), credit);
            Check.due("the others wait", desk.place(0, 0), 8 - credit);
            Check.due("the first of them", desk.item(0, 0, 0), credit);
        }
        BrokerDesk desk = Wire.opened(1);
        for (int k = 0; k < 8; k++) {
            send(desk, 0, 0, k);
        }
        subscribe(desk, 0, 0, 0, 0, 1);
        dueItems("all eight at once", desk, 0);
        Check.due("GIVEN", desk.place(0, 1), 8);
        Check.due("the last one's TAG", desk.output(0, 6 * 7 + 4), 7);
        Check.due("the last one's BODY", desk.output(0, 6 * 7 + 5), 7);
    }

    /** "Behind each byte of INPUT that was looked at ... QUEUES give": not only at the end of feed. */
    private static void behindEachByte() {
        BrokerDesk desk = Wire.opened(1);
        subscribe(desk, 0, 0, 0, 0, 1);
        Wire.feed(desk, 0, 129, 128 + 4, 0, 0, 0, 0, 3, 0, 0);
        // The last byte of the COMMAND, then a CONTROL that asks and one byte more, in one call.
        Check.due("eight bytes", desk.feed(0, 0x81_0000_0000_8089_4DL, 8), 8);
        Wire.dueOutput("it is GIVEN before the next byte is looked at", desk, 0, 129, 4, 1, 0, 0, 77, 138, 0);
        desk = Wire.opened(2);
        subscribe(desk, 0, 0, 0, 1, 1);
        subscribe(desk, 1, 0, 0, 1, 1);
        send(desk, 1, 0, 50);
        Check.due("session 0 HOLDS it", desk.subscription(0, 0, 3), 1);
        Check.due("a FAULT, and what comes behind", desk.feed(0, -1L, 8), 1);
        Check.due("behind that byte it is GIVEN to another one", desk.subscription(1, 0, 3), 1);
    }

    /** "and at the end of each call that changes something" */
    private static void atTheEndOfACall() {
        BrokerDesk desk = Wire.opened(3);
        subscribe(desk, 0, 0, 0, 1, 5);
        subscribe(desk, 1, 0, 0, 0, 1);
        for (int k = 0; k < 3; k++) {
            Wire.fillOutput(desk, 1, 5);
            send(desk, 2, 0, k);
        }
        Check.due("session 0 HOLDS all", desk.subscription(0, 0, 3), 3);
        desk.shut(0);
        dueItems("shut: all came back, none CAN", desk, 0, 0, 1, 2);
        desk.take(1, 1);
        dueItems("take: one is GIVEN", desk, 0, 1, 2);
        desk.take(1, 7);
        dueItems("take: another one", desk, 0, 2);
        Check.due("open", desk.open(0), true);
        dueItems("open: none CAN", desk, 0, 2);
        desk.take(1, 5);
        dueItems("take: the last one", desk, 0);
        desk = Wire.opened(2);
        subscribe(desk, 0, 0, 0, 1, 5);
        send(desk, 1, 0, 7);
        subscribe(desk, 1, 0, 0, 1, 5);
        Check.due("session 0 HOLDS it", desk.subscription(0, 0, 3), 1);
        desk.shut(0);
        Check.due("shut: it is GIVEN to another one", desk.subscription(1, 0, 3), 1);
        Wire.dueOutput("with a TAG of that one", desk, 1, 129, 4, 1, 0, 0, 7);
    }

    /** "QUEUES give, from 0 on" */
    private static void fromQueue0On() {
        BrokerDesk desk = Wire.opened(2);
        for (int t = 0; t < 3; t++) {
            subscribe(desk, 0, t, 2 - t, 0, 1);
        }
        Wire.fillOutput(desk, 0, 5);
        for (int t = 2; t >= 0; t--) {
            send(desk, 1, t, 10 + t);
            send(desk, 1, t, 20 + t);
        }
        for (int round = 0; round < 6; round++) {
            desk.take(0, round == 0 ? 1 : 6);
            for (int t = 0; t < 3; t++) {
                int due = Math.min(2, Math.max(0, 2 * t + 1 - round));
                Check.due("round " + round + ", QUEUE " + t, desk.place(t, 0), due);
            }
        }
    }

    /** "1 counts each giving: ... and again if an ITEM that came back is GIVEN again" */
    private static void givenAgainCounts() {
        BrokerDesk desk = Wire.opened(1);
        subscribe(desk, 0, 0, 0, 1, 1);
        send(desk, 0, 0, 1);
        Check.due("once", desk.place(0, 1), 1);
        Wire.tell(desk, 0, 5, 0, 0);
        Check.due("twice, as it was REFUSED", desk.place(0, 1), 2);
        Wire.tell(desk, 0, 2, 0);
        subscribe(desk, 0, 0, 0, 1, 1);
        Check.due("three times, as the SUBSCRIPTION ENDED", desk.place(0, 1), 3);
        Wire.tell(desk, 0, 4, 2, 0);
        Check.due("TAKEN it is no giving", desk.place(0, 1), 3);
        subscribe(desk, 0, 1, 3, 0, 1);
        subscribe(desk, 0, 2, 3, 0, 1);
        send(desk, 0, 3, 1);
        Check.due("once for every SUBSCRIPTION of a STREAM", desk.place(3, 1), 2);
    }

    /** "each SUBSCRIPTION in turn is asked whether it CAN, with what those before it were given already" */
    private static void streamAsksInTurn() {
        for (int room = 5; room <= 30; room++) {
            BrokerDesk desk = Wire.opened(2);
            for (int s = 0; s < 4; s++) {
                subscribe(desk, 0, s, 3, s % 2, 1);
            }
            Wire.fillOutput(desk, 0, room);
            Check.due("each CAN, if one does", desk.ready(3, 1), room < 6 ? 0 : 4);
            send(desk, 1, 3, 9);
            int given = Math.min(4, room / 6);
            Check.due("room " + room + ": GIVEN", desk.place(3, 1), given);
            Check.due("room " + room + ": the latest", desk.place(3, 3), given - 1);
            Check.due("room " + room + ": bytes", desk.session(0, 1), 240 - room + 6 * given);
            Check.due("room " + room + ": next TAG", desk.session(0, 5), given);
            Check.due("room " + room + ": 1 HOLDS", desk.subscription(0, 1, 3), given >= 2 ? 1 : 0);
            Check.due("room " + room + ": 3 HOLDS", desk.subscription(0, 3, 3), given >= 4 ? 1 : 0);
        }
    }

    /** "How many SUBSCRIPTIONS for a PLACE CAN": from none to all sixteen. */
    private static void readyOfMany() {
        for (int t = 0; t < 6; t++) {
            BrokerDesk desk = Wire.opened(4);
            for (int ring = 0; ring < 16; ring++) {
                Check.due("ready(" + t + ")", desk.ready(t, 1), ring);
                Check.due("ready(" + t + ") for 16", desk.ready(t, 16), ring);
                Check.due("for another PLACE", desk.ready((t + 1) % 6, 1), 0);
                subscribe(desk, ring / 4, ring % 4, t, ring % 3, 1 + ring % 5);
            }
            Check.due("all of them", desk.ready(t, 16), 16);
        }
    }
}
