/** The sentences on what is held, TAKEN, REFUSED, and on what ENDS that name a bound: each on both of its sides. */
public final class HoldingEdgesTest {
    public static void main(String[] args) {
        noneHoldsSuchAOne();
        onlyOfTheSession();
        theOldestOfTwo();
        mostItems();
        bodiesStayWhole();
        modeOneTakesOne();
        modeTwoTakesThoseBefore();
        modeTwoOfItsSubscription();
        refusedComesToTheFront();
        refusedInOrder();
        triesUpToThree();
        triesOfEach();
        eightWhenRefused();
        lastGivenComesFirst();
        triesBeforeRoom();
        streamsHaveNothingBack();
        endsAndComesBack();
        endsWithEight();
        endsFrom0On();
        everyWayToEnd();
        endedHoldsNothing();
        closingIsNotLookedAt();
        shutEndsOnlyOpenOnes();
        opensWithNone();
        Check.end();
    }

    private static void subscribe(BrokerDesk desk, int session, int s, int t, int mode, int credit) {
        Wire.tell(desk, session, 1, s, t, mode, credit);
    }

    private static void send(BrokerDesk desk, int session, int t, int... body) {
        Wire.tell(desk, session, Wire.join(Wire.bytes(3, t, 0), body));
    }

    private static void dueItems(String what, BrokerDesk desk, int t, int... want) {
        Check.due(what + ": items", desk.place(t, 0), want.length);
        for (int i = 0; i < want.length; i++) {
            Check.due(what + ": item " + i, desk.item(t, i, 0), want[i]);
        }
        Check.due(what + ": behind the last one", desk.item(t, want.length, 0), -1);
    }

    /**
     * SUBSCRIPTION 1 of session 0 HOLDS as many as told, with bodies from 10 on; as many wait, from 20 on;
     * and its OUTPUT has no room, so that what comes back can be seen.
     */
    private static BrokerDesk holding(int t, int mode, int held, int waiting) {
        BrokerDesk desk = Wire.opened(3);
        subscribe(desk, 0, 1, t, mode, 5);
        for (int k = 0; k < held; k++) {
            send(desk, 2, t, 10 + k);
        }
        Wire.fillOutput(desk, 0, 5);
        for (int k = 0; k < waiting; k++) {
            send(desk, 2, t, 20 + k);
        }
        return desk;
    }

    /** "If none HOLDS such a one nothing happens." */
    private static void noneHoldsSuchAOne() {
        for (int op = 4; op <= 5; op++) {
            BrokerDesk desk = Wire.opened(1);
            Wire.tell(desk, 0, op, 0, 0);
            Check.due("without a SUBSCRIPTION", desk.session(0, 4), 1);
            subscribe(desk, 0, 0, 0, 0, 1);
            send(desk, 0, 0, 1);
            Wire.tell(desk, 0, op, 0, 0);
            Check.due("MODE 0 HOLDS none", desk.place(0, 0) + desk.place(0, 2), 0);
            for (int tag : new int[] {3, 4, 127, 128, 254, 255}) {
                for (int mode = 1; mode <= 2; mode++) {
                    desk = holding(0, mode, 3, 2);
                    Wire.tell(desk, 0, op, tag, 0);
                    String what = op + " " + tag + " with MODE " + mode;
                    Check.due(what + ": held", desk.subscription(0, 1, 3), 3);
                    Check.due(what + ": the oldest", desk.subscription(0, 1, 4), 0);
                    dueItems(what, desk, 0, 20, 21);
                    Check.due(what + ": LOST", desk.place(0, 2), 0);
                    Check.due(what + ": no FAULT", desk.session(0, 3), 0);
                }
            }
            desk = holding(0, 1, 3, 0);
            Wire.tell(desk, 0, op, 1, 0);
            Wire.tell(desk, 0, op, 1, 0);
            Check.due("it is TAKEN or REFUSED once", desk.subscription(0, 1, 3), 2);
            Check.due("and comes back once", desk.place(0, 0), op - 4);
            Check.due("with one of TRIES", desk.place(0, 4), op - 4);
        }
    }

    /** "if a SUBSCRIPTION of the SESSION HOLDS an ITEM with TAG n" */
    private static void onlyOfTheSession() {
        for (int op = 4; op <= 5; op++) {
            BrokerDesk desk = holding(0, 1, 2, 0);
            Wire.tell(desk, 1, op, 0, 0);
            Wire.tell(desk, 2, op, 1, 0);
            Check.due("not by another SESSION", desk.subscription(0, 1, 3), 2);
            dueItems("not by another SESSION", desk, 0);
            Wire.tell(desk, 0, op, 0, 0);
            Check.due("by its own", desk.subscription(0, 1, 3), 1);
        }
    }

    /** "(the oldest one that does)": 256 givings later the same TAG is there again. */
    private static void theOldestOfTwo() {
        for (int s = 0; s < 4; s += 3) {
            for (int op = 4; op <= 5; op++) {
                BrokerDesk desk = Wire.opened(1);
                subscribe(desk, 0, s, 0, 1, 2);
                send(desk, 0, 0, 10);
                for (int k = 1; k < 4; k++) {
                    subscribe(desk, 0, (s + k) % 4, 4, 0, 1);
                }
                Wire.drain(desk, 0);
                sendForThree(desk, 85);
                Check.due("255 more were GIVEN", desk.session(0, 5), 0);
                send(desk, 0, 0, 11);
                Check.due("two are held", desk.subscription(0, s, 3), 2);
                Check.due("the younger one's TAG is 0 too", desk.output(0, 4), 0);
                Wire.fillOutput(desk, 0, 5);
                Wire.tell(desk, 0, op, 0, 0);
                Check.due("one of them", desk.subscription(0, s, 3), 1);
                Check.due("the other one is 0 still", desk.subscription(0, s, 4), 0);
                Wire.tell(desk, 0, 2, s);
                if (op == 4) {
                    dueItems("the older one was TAKEN", desk, 0, 11);
                } else {
                    dueItems("the older one was REFUSED before", desk, 0, 11, 10);
                }
            }
        }
    }

    /** To the STREAM 4, 13 at once: for three SUBSCRIPTIONS these are 234 bytes. */
    private static void sendForThree(BrokerDesk desk, int times) {
        int[] row = {};
        for (int k = 1; k <= times; k++) {
            row = Wire.join(row, Wire.frame(129, 3, 4, 0, 1));
            if (k % 13 == 0 || k == times) {
                Wire.feed(desk, 0, row);
                Wire.drain(desk, 0);
                row = Wire.bytes();
            }
        }
    }

    /** The most that can be held: CREDIT 5 of all sixteen, and 8 in each QUEUE. */
    private static void mostItems() {
        BrokerDesk desk = Wire.opened(4);
        for (int ring = 0; ring < 16; ring++) {
            subscribe(desk, ring / 4, ring % 4, ring % 3, 1 + ring % 2, 5);
        }
        int[] held = {30, 25, 25};
        for (int t = 0; t < 3; t++) {
            int[] row = {};
            for (int k = 0; k < held[t] + 8; k++) {
                row = Wire.join(row, Wire.frame(129, 3, t, 0, 60 * t + k));
            }
            Wire.feed(desk, t, row);
            Check.due("GIVEN of " + t, desk.place(t, 1), held[t]);
            dueItems("wait for " + t, desk, t, Wire.count(8, 60 * t + held[t]));
            Check.due("none is LOST", desk.place(t, 2), 0);
        }
        for (int t = 0; t < 3; t++) {
            send(desk, 3, t, 200);
            Check.due("one more is LOST", desk.place(t, 2), 1);
            dueItems("wait for " + t, desk, t, Wire.count(8, 60 * t + held[t]));
        }
        for (int ring = 0; ring < 16; ring++) {
            Check.due("held by " + ring, desk.subscription(ring / 4, ring % 4, 3), 5);
        }
        // The last one of the ring, which is for QUEUE 0: it alone CAN, as soon as one of its five is TAKEN.
        for (int k = 0; k < 5; k++) {
            int tag = desk.subscription(3, 3, 4);
            Wire.tell(desk, 3, 4, tag, 0);
            Check.due("TAKEN, and GIVEN the next one", desk.subscription(3, 3, 3), 5);
        }
        dueItems("five less wait", desk, 0, Wire.count(3, held[0] + 5));
    }

    /** ITEMS that went leave room for others: those that stayed keep all sixteen bytes. */
    private static void bodiesStayWhole() {
        BrokerDesk desk = Wire.opened(2);
        subscribe(desk, 0, 0, 0, 1, 3);
        for (int k = 0; k < 3; k++) {
            send(desk, 1, 0, Wire.fill(16, 10 + k));
        }
        for (int tag = 0; tag < 3; tag += 2) {
            Wire.tell(desk, 0, 4, tag, 0);
            send(desk, 1, 0, Wire.fill(16, 20 + tag));
        }
        Wire.tell(desk, 0, 2, 0);
        int[] bodies = {11, 20, 22};
        for (int i = 0; i < 3; i++) {
            for (int k = 0; k < 16; k++) {
                Check.due("item " + i + ", byte " + k, desk.item(0, i, k), bodies[i]);
            }
        }
    }

    /** "it does so no more" */
    private static void modeOneTakesOne() {
        for (int tag = 0; tag < 5; tag++) {
            BrokerDesk desk = holding(0, 1, 5, 0);
            Wire.tell(desk, 0, 4, tag, 0);
            Check.due("the other four", desk.subscription(0, 1, 3), 4);
            Check.due("the oldest of them", desk.subscription(0, 1, 4), tag == 0 ? 1 : 0);
            Check.due("none came back", desk.place(0, 0) + desk.place(0, 2), 0);
            Wire.tell(desk, 0, 2, 1);
            int[] rest = new int[4];
            for (int k = 0; k < 4; k++) {
                rest[k] = k < tag ? 10 + k : 11 + k;
            }
            dueItems("they were held still", desk, 0, rest);
        }
    }

    /** "with MODE 2 nor those that it HOLDS for longer" */
    private static void modeTwoTakesThoseBefore() {
        for (int tag = 0; tag < 5; tag++) {
            BrokerDesk desk = holding(0, 2, 5, 0);
            Wire.tell(desk, 0, 4, tag, 0);
            Check.due("those behind it", desk.subscription(0, 1, 3), 4 - tag);
            Check.due("the oldest of them", desk.subscription(0, 1, 4), tag == 4 ? -1 : tag + 1);
            Check.due("none came back", desk.place(0, 0) + desk.place(0, 2), 0);
            Wire.tell(desk, 0, 2, 1);
            dueItems("they were held still", desk, 0, Wire.count(4 - tag, 11 + tag));
        }
    }

    /** "those that it HOLDS": another SUBSCRIPTION's are older, and stay. */
    private static void modeTwoOfItsSubscription() {
        for (int op = 4; op <= 5; op++) {
            BrokerDesk desk = Wire.opened(2);
            subscribe(desk, 0, 0, 0, 2, 5);
            subscribe(desk, 0, 2, 0, 2, 5);
            for (int k = 0; k < 6; k++) {
                send(desk, 1, 0, 10 + k);
            }
            Wire.fillOutput(desk, 0, 5);
            Wire.tell(desk, 0, op, 3, 0);
            Check.due("0, 2 and 4 stay", desk.subscription(0, 0, 3), 3);
            Check.due("0 is the oldest", desk.subscription(0, 0, 4), 0);
            Check.due("5 stays", desk.subscription(0, 2, 3), 1);
            Check.due("5 is the oldest", desk.subscription(0, 2, 4), 5);
            if (op == 5) {
                dueItems("1 and 3 come back", desk, 0, 11, 13);
            }
        }
    }

    /** "those of QUEUES (the SUBSCRIPTION's PLACE) come back, with TRIES one more: at the front of it" */
    private static void refusedComesToTheFront() {
        for (int t = 0; t < 3; t++) {
            for (int waiting = 0; waiting <= 7; waiting += 7) {
                BrokerDesk desk = holding(t, 1, 2, waiting);
                Check.due("TRIES", desk.place(t, 4), 0);
                Wire.tell(desk, 0, 5, 0, 0);
                dueItems("before " + waiting, desk, t, Wire.join(Wire.bytes(10), Wire.count(waiting, 20)));
                Check.due("TRIES one more", desk.place(t, 4), 1);
                Check.due("none is LOST", desk.place(t, 2), 0);
                Check.due("one is held", desk.subscription(0, 1, 4), 1);
                for (int other = 0; other < 3; other++) {
                    Check.due("to its PLACE alone", desk.place(other, 0), other == t ? waiting + 1 : 0);
                }
            }
        }
    }

    /** "in the order in which they were given" */
    private static void refusedInOrder() {
        for (int tag = 0; tag < 5; tag++) {
            BrokerDesk desk = holding(0, 2, 5, 2);
            Wire.tell(desk, 0, 5, tag, 0);
            dueItems("up to " + tag, desk, 0, Wire.join(Wire.count(tag + 1, 10), Wire.bytes(20, 21)));
            Check.due("the others are held", desk.subscription(0, 1, 3), 4 - tag);
        }
    }

    /** "but with 3 TRIES ... they are LOST" */
    private static void triesUpToThree() {
        for (int mode = 1; mode <= 2; mode++) {
            BrokerDesk desk = Wire.opened(2);
            subscribe(desk, 0, 0, 1, mode, 1);
            send(desk, 1, 1, 50);
            for (int tries = 1; tries <= 3; tries++) {
                Check.due("held before " + tries, desk.subscription(0, 0, 4), tries - 1);
                Wire.fillOutput(desk, 0, 5);
                Wire.tell(desk, 0, 5, tries - 1, 0);
                Check.due("there, with " + tries, desk.place(1, 0), tries < 3 ? 1 : 0);
                Check.due("TRIES", desk.place(1, 4), tries < 3 ? tries : 0);
                Check.due("LOST", desk.place(1, 2), tries < 3 ? 0 : 1);
                Check.due("held no more", desk.subscription(0, 0, 3), 0);
                Wire.drain(desk, 0);
            }
            Check.due("GIVEN three times", desk.place(1, 1), 3);
            send(desk, 1, 1, 51);
            Wire.tell(desk, 0, 2, 0);
            Check.due("a new one has none", desk.place(1, 4), 0);
            dueItems("and is there", desk, 1, 51);
        }
    }

    /** TRIES are an ITEM's own: with MODE 2 the older one is LOST, the younger one comes back. */
    private static void triesOfEach() {
        BrokerDesk desk = Wire.opened(2);
        subscribe(desk, 0, 0, 0, 2, 2);
        send(desk, 1, 0, 50);
        Wire.tell(desk, 0, 5, 0, 0);
        Wire.tell(desk, 0, 5, 1, 0);
        send(desk, 1, 0, 51);
        Check.due("both are held", desk.subscription(0, 0, 3), 2);
        Wire.fillOutput(desk, 0, 5);
        Wire.tell(desk, 0, 5, 3, 0);
        dueItems("the younger one", desk, 0, 51);
        Check.due("its TRIES", desk.place(0, 4), 1);
        Check.due("the older one is LOST", desk.place(0, 2), 1);
    }

    /** "or if there are 8, they are LOST" */
    private static void eightWhenRefused() {
        for (int waiting = 6; waiting <= 8; waiting++) {
            BrokerDesk desk = holding(2, 1, 1, waiting);
            Wire.tell(desk, 0, 5, 0, 0);
            boolean lost = waiting == 8;
            Check.due("LOST with " + waiting, desk.place(2, 2), lost ? 1 : 0);
            int[] back = lost ? Wire.bytes() : Wire.bytes(10);
            dueItems("with " + waiting, desk, 2, Wire.join(back, Wire.count(waiting, 20)));
            Check.due("TRIES of the first", desk.place(2, 4), lost ? 0 : 1);
            Check.due("held no more", desk.subscription(0, 1, 3), 0);
        }
    }

    /** "(the one given last comes first to this)" */
    private static void lastGivenComesFirst() {
        for (int waiting = 3; waiting <= 8; waiting++) {
            for (boolean refused : new boolean[] {true, false}) {
                BrokerDesk desk = holding(0, 2, 5, waiting);
                if (refused) {
                    Wire.tell(desk, 0, 5, 4, 0);
                } else {
                    Wire.tell(desk, 0, 2, 1);
                }
                int back = 8 - waiting;
                String what = (refused ? "REFUSED" : "ENDED") + " with " + waiting;
                dueItems(what, desk, 0, Wire.join(Wire.count(back, 15 - back), Wire.count(waiting, 20)));
                Check.due(what + ": LOST", desk.place(0, 2), 5 - back);
            }
        }
    }

    /** One that is LOST by its TRIES needs no room, so that the older one behind it may be the eighth. */
    private static void triesBeforeRoom() {
        BrokerDesk desk = Wire.opened(3);
        subscribe(desk, 0, 0, 0, 1, 1);
        send(desk, 2, 0, 60);
        Wire.tell(desk, 0, 5, 0, 0);
        Wire.tell(desk, 0, 5, 1, 0);
        subscribe(desk, 1, 0, 0, 2, 2);
        send(desk, 2, 0, 61);
        Wire.tell(desk, 0, 2, 0);
        Check.due("session 1 HOLDS 61 and then 60, which has 2 TRIES", desk.subscription(1, 0, 3), 2);
        Wire.fillOutput(desk, 1, 5);
        for (int k = 0; k < 7; k++) {
            send(desk, 2, 0, 70 + k);
        }
        Wire.tell(desk, 1, 5, 1, 0);
        dueItems("61 comes back", desk, 0, 61, 70, 71, 72, 73, 74, 75, 76);
        Check.due("60 is LOST", desk.place(0, 2), 1);
        Check.due("the TRIES of 61", desk.place(0, 4), 1);
    }

    /** "those of QUEUES": what a STREAM gave is held, but does not come back. */
    private static void streamsHaveNothingBack() {
        for (int t = 3; t < 6; t++) {
            for (int mode = 1; mode <= 2; mode++) {
                BrokerDesk desk = holding(t, mode, 5, 0);
                Wire.tell(desk, 0, 5, 1, 0);
                Check.due("held", desk.subscription(0, 1, 3), mode == 1 ? 4 : 3);
                Check.due("the oldest", desk.subscription(0, 1, 4), mode == 1 ? 0 : 2);
                Wire.tell(desk, 0, 4, 2, 0);
                Check.due("held", desk.subscription(0, 1, 3), mode == 1 ? 3 : 2);
                Wire.tell(desk, 0, 2, 1);
                for (int place = 0; place < 6; place++) {
                    Check.due("items of " + place, desk.place(place, 0), 0);
                    Check.due("LOST of " + place, desk.place(place, 2), 0);
                }
            }
        }
    }

    /** "what it HELD comes back likewise, but with no TRIES more (so that 8 alone matter)" */
    private static void endsAndComesBack() {
        BrokerDesk desk = Wire.opened(2);
        subscribe(desk, 0, 0, 0, 2, 2);
        send(desk, 1, 0, 50);
        Wire.tell(desk, 0, 5, 0, 0);
        Wire.tell(desk, 0, 5, 1, 0);
        send(desk, 1, 0, 51);
        for (int round = 0; round < 4; round++) {
            Wire.tell(desk, 0, 2, 0);
            dueItems("round " + round, desk, 0, 50, 51);
            Check.due("TRIES stay", desk.place(0, 4), 2);
            subscribe(desk, 0, 0, 0, 2, 2);
        }
        Check.due("none is LOST", desk.place(0, 2), 0);
        desk.shut(0);
        dueItems("shut", desk, 0, 50, 51);
        Check.due("TRIES stay", desk.place(0, 4), 2);
    }

    /** "(so that 8 alone matter)": with each way to end. */
    private static void endsWithEight() {
        for (int waiting = 6; waiting <= 8; waiting++) {
            for (int way = 0; way < 3; way++) {
                BrokerDesk desk = holding(1, 1, 1, waiting);
                if (way == 0) {
                    Wire.tell(desk, 0, 2, 1);
                } else if (way == 1) {
                    Wire.feed(desk, 0, 2);
                } else {
                    desk.shut(0);
                }
                boolean lost = waiting == 8;
                Check.due("LOST with " + waiting, desk.place(1, 2), lost ? 1 : 0);
                int[] back = lost ? Wire.bytes() : Wire.bytes(10);
                dueItems("with " + waiting, desk, 1, Wire.join(back, Wire.count(waiting, 20)));
                Check.due("no TRIES", desk.place(1, 4), 0);
            }
        }
    }

    /** "all its SUBSCRIPTIONS END, from 0 on": what the last one HELD is at the front then, if there is room. */
    private static void endsFrom0On() {
        for (int waiting = 5; waiting <= 8; waiting++) {
            BrokerDesk desk = Wire.opened(2);
            for (int s = 0; s < 4; s++) {
                subscribe(desk, 0, s, 0, 1, 1);
            }
            for (int k = 0; k < 4; k++) {
                send(desk, 1, 0, 10 + k);
            }
            for (int k = 0; k < waiting; k++) {
                send(desk, 1, 0, 20 + k);
            }
            Wire.feed(desk, 0, Wire.frame(136));
            int[] back = java.util.Arrays.copyOfRange(Wire.bytes(13, 12, 11, 10), 4 - (8 - waiting), 4);
            dueItems("with " + waiting, desk, 0, Wire.join(back, Wire.count(waiting, 20)));
            Check.due("LOST with " + waiting, desk.place(0, 2), waiting - 4);
        }
    }

    /** "A FAULT c: a FRAME 8 with the byte c is written, and the SESSION ENDS.": each FAULT, and 8 without one. */
    private static void everyWayToEnd() {
        int[][] ways = {{2}, {129, 1}, {129, 254, 0, 201}, Wire.frame(193, 255), Wire.frame(129, 10),
            Wire.frame(136, 1)};
        int[] faults = {2, 2, 9, 7, 8, 0};
        for (int way = 0; way < ways.length; way++) {
            BrokerDesk desk = Wire.opened(2);
            subscribe(desk, 0, 0, 0, 1, 5);
            subscribe(desk, 0, 3, 3, 2, 5);
            send(desk, 1, 0, 10);
            send(desk, 1, 3, 11);
            Wire.drain(desk, 0);
            Wire.feed(desk, 0, ways[way]);
            String what = "way " + way;
            int[] due = {BrokerDesk.CLOSING, 3, 0, faults[way], 2, 2, 0, 0};
            for (int k = 0; k < 8; k++) {
                Check.due(what + ": session(0, " + k + ")", desk.session(0, k), due[k]);
            }
            Wire.dueOutput(what, desk, 0, 136, 1, faults[way] == 0 ? 1 : faults[way]);
            dueItems(what, desk, 0, 10);
            for (int s = 0; s < 4; s++) {
                Check.due(what + ": no SUBSCRIPTION", desk.subscription(0, s, 0), -1);
            }
            Check.due(what + ": none for the STREAM", desk.ready(3, 1), 0);
        }
    }

    /** "A SUBSCRIPTION that ENDS HOLDS nothing any more" */
    private static void endedHoldsNothing() {
        BrokerDesk desk = holding(0, 1, 3, 0);
        Wire.tell(desk, 0, 2, 1);
        Wire.tell(desk, 0, 5, 1, 0);
        dueItems("nothing can be REFUSED", desk, 0, 10, 11, 12);
        Check.due("no TRIES", desk.place(0, 4), 0);
        subscribe(desk, 0, 1, 3, 1, 2);
        Check.due("one that is there again HOLDS none", desk.subscription(0, 1, 3), 0);
        Check.due("nor has it an oldest one", desk.subscription(0, 1, 4), -1);
        Wire.tell(desk, 0, 4, 1, 0);
        Wire.tell(desk, 0, 2, 1);
        dueItems("nothing came back twice", desk, 0, 10, 11, 12);
    }

    /** "INPUT is not looked at" */
    private static void closingIsNotLookedAt() {
        BrokerDesk desk = holding(0, 1, 1, 0);
        Wire.feed(desk, 0, 2);
        int bytes = desk.session(0, 1);
        for (int b : new int[] {2, 129, 136, 137}) {
            Check.due("feed", desk.feed(0, b, 1), -1);
        }
        Check.due("no more is written", desk.session(0, 1), bytes);
        Check.due("the FAULT stays", desk.session(0, 3), 2);
        Check.due("CLOSING", desk.session(0, 0), BrokerDesk.CLOSING);
        Check.due("what was written can be taken", desk.take(0, 7) >= 0, true);
        Check.due("it is CLOSING even so", desk.session(0, 0), BrokerDesk.CLOSING);
        Wire.drain(desk, 0);
        Check.due("and when all is taken", desk.session(0, 0), BrokerDesk.CLOSING);
    }

    /** "A SESSION ENDS, if it is OPEN, and is SHUT" */
    private static void shutEndsOnlyOpenOnes() {
        for (int way = 0; way < 2; way++) {
            BrokerDesk desk = holding(0, 1, 3, 1);
            if (way == 1) {
                Wire.feed(desk, 0, Wire.frame(136));
                dueItems("CLOSING", desk, 0, 10, 11, 12, 20);
            }
            Check.due("shut", desk.shut(0), true);
            dueItems("SHUT", desk, 0, 10, 11, 12, 20);
            Check.due("SHUT", desk.session(0, 0), BrokerDesk.SHUT);
            Check.due("not twice", desk.shut(0), false);
            Check.due("none is LOST", desk.place(0, 2), 0);
        }
    }

    /** "It opens with none of all these." */
    private static void opensWithNone() {
        for (int way = 0; way < 2; way++) {
            BrokerDesk desk = holding(0, 2, 5, 0);
            Wire.tell(desk, 0, 6, 1);
            Wire.tell(desk, 0, 3, 5, 1, 1);
            Wire.feed(desk, 0, way == 0 ? Wire.frame(1, 1, 2, 3) : Wire.bytes(2));
            desk.shut(0);
            for (int round = 0; round < 2; round++) {
                for (int what = 0; what < 8; what++) {
                    Check.due("session(0, " + what + ")", desk.session(0, what), what == 0 ? round : 0);
                }
                Check.due("output", desk.output(0, 0), -1);
                Check.due("take", desk.take(0, 1), -1);
                Check.due("past", desk.past(0, 0), -1);
                Check.due("shortest", desk.shortest(0, 1), -1);
                for (int s = 0; s < 4; s++) {
                    Check.due("subscription " + s, desk.subscription(0, s, 0), -1);
                }
                desk.open(0);
            }
            dueItems("the QUEUE has what it had", desk, 0, 10, 11, 12, 13, 14);
            Check.due("and counts on", desk.place(0, 1), 5);
        }
    }
}
