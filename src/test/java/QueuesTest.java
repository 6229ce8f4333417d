/** Promises 9, 10, 11 and 12: subscriptions, places, items, ready, as queues have them. */
public final class QueuesTest {
    public static void main(String[] args) {
        wrongArguments();
        fillsUp();
        ring();
        ringGoesOn();
        modesAndCredit();
        takenOne();
        takenUpTo();
        refused();
        refusedOrder();
        threeTries();
        noRoomToComeBack();
        endsWithTries();
        othersTags();
        manyItems();
        firstBlocks();
        queuesInOrder();
        readyCounts();
        Check.end();
    }

    private static void subscribe(BrokerDesk desk, int session, int s, int t, int mode, int credit) {
        Wire.tell(desk, session, 1, s, t, mode, credit);
    }

    private static void send(BrokerDesk desk, int session, int t, int... body) {
        Wire.tell(desk, session, Wire.join(Wire.bytes(3, t, 0), body));
    }

    private static void dueItems(String what, BrokerDesk desk, int t, int... want) {
        Check.due(what + ": items", desk.place(t, 0), want.length);
        for (int i = 0; i < want.length; i++) {
            Check.due(what + ": item " + i, desk.item(t, i, 0), want[i]);
        }
    }

    private static void wrongArguments() {
        BrokerDesk desk = Wire.opened(1);
        subscribe(desk, 0, 3, 1, 2, 4);
        send(desk, 0, 0, 5, 6);
        int[] due = {1, 2, 4, 0, -1};
        for (int what = 0; what < 5; what++) {
            Check.due("subscription " + what, desk.subscription(0, 3, what), due[what]);
        }
        for (int wrong : new int[] {-1, 5, Integer.MIN_VALUE, Integer.MAX_VALUE}) {
            Check.due("subscription what " + wrong, desk.subscription(0, 3, wrong), -1);
            Check.due("place what " + wrong, desk.place(0, wrong), -1);
        }
        for (int wrong : new int[] {-1, 4, Integer.MIN_VALUE, Integer.MAX_VALUE}) {
            Check.due("subscription s " + wrong, desk.subscription(0, wrong, 0), -1);
            Check.due("subscription of " + wrong, desk.subscription(wrong, 3, 0), -1);
        }
        // Subscription 3 of session 0 is the one before the first of session 1.
        Check.due("subscription -1 of 1", desk.subscription(1, -1, 0), -1);
        desk.open(1);
        subscribe(desk, 1, 0, 1, 2, 4);
        Check.due("subscription 4 of 0", desk.subscription(0, 4, 0), -1);
        for (int wrong : new int[] {-1, 6, Integer.MIN_VALUE, Integer.MAX_VALUE}) {
            Check.due("place " + wrong, desk.place(wrong, 0), -1);
            Check.due("ready " + wrong, desk.ready(wrong, 1), -1);
            Check.due("item of " + wrong, desk.item(wrong, 0, 0), -1);
        }
        for (int wrong : new int[] {-1, 0, 17, Integer.MIN_VALUE, Integer.MAX_VALUE}) {
            Check.due("ready for " + wrong, desk.ready(1, wrong), -1);
        }
        Check.due("item", desk.item(0, 0, 1), 6);
        for (int wrong : new int[] {-1, 2, 16, Integer.MIN_VALUE, Integer.MAX_VALUE}) {
            Check.due("byte " + wrong, desk.item(0, 0, wrong), -1);
        }
        for (int wrong : new int[] {-1, 1, 8, Integer.MIN_VALUE, Integer.MAX_VALUE}) {
            Check.due("item " + wrong, desk.item(0, wrong, 0), -1);
        }
        Check.due("item of a stream", desk.item(3, 0, 0), -1);
    }

    private static void fillsUp() {
        BrokerDesk desk = Wire.opened(1);
        for (int t = 0; t < 3; t++) {
            for (int k = 0; k < 10; k++) {
                send(desk, 0, t, 10 * t + k);
                Check.due("items", desk.place(t, 0), Math.min(8, k + 1));
                Check.due("lost", desk.place(t, 2), Math.max(0, k - 7));
            }
        }
        for (int t = 0; t < 3; t++) {
            dueItems("queue " + t, desk, t, Wire.count(8, 10 * t));
            Check.due("none behind", desk.item(t, 8, 0), -1);
            Check.due("none given", desk.place(t, 1), 0);
            Check.due("none got one", desk.place(t, 3), -1);
        }
        subscribe(desk, 0, 0, 1, 0, 1);
        Check.due("all are given", desk.place(1, 0), 0);
        Check.due("given", desk.place(1, 1), 8);
        Check.due("to", desk.place(1, 3), 0);
        Check.due("byte of the first", desk.output(0, 5), 10);
        Check.due("byte of the last", desk.output(0, 47), 17);
    }

    private static void ring() {
        BrokerDesk desk = Wire.opened(4);
        subscribe(desk, 2, 1, 0, 1, 2);
        subscribe(desk, 0, 2, 0, 1, 2);
        subscribe(desk, 3, 3, 0, 1, 1);
        subscribe(desk, 1, 0, 1, 1, 5);
        int[] order = {2, 9, 15, 2, 9};
        for (int k = 0; k < order.length; k++) {
            send(desk, 1, 0, k);
            Check.due("giving " + k, desk.place(0, 3), order[k]);
        }
        send(desk, 1, 0, 5);
        Check.due("none can", desk.place(0, 0), 1);
        Check.due("so the latest stays", desk.place(0, 3), 9);
        Check.due("the other queue's gets none", desk.subscription(1, 0, 3), 0);
        Wire.tell(desk, 0, 4, 0, 0);
        Check.due("who can gets it", desk.place(0, 3), 2);
        Check.due("given", desk.place(0, 1), 6);
        Wire.dueOutput("tags of its session", desk, 0, 129, 4, 1, 2, 0, 0, 129, 4, 1, 2, 1, 3, 129, 4, 1, 2, 2, 5);
    }

    /** The ring goes on behind the one that got the latest, even if that one is there no more. */
    private static void ringGoesOn() {
        BrokerDesk desk = Wire.opened(2);
        subscribe(desk, 0, 1, 0, 0, 1);
        subscribe(desk, 0, 2, 0, 0, 1);
        subscribe(desk, 1, 0, 0, 0, 1);
        send(desk, 0, 0, 1);
        Check.due("the first one", desk.place(0, 3), 1);
        Wire.tell(desk, 0, 2, 1);
        send(desk, 0, 0, 2);
        Check.due("on behind it", desk.place(0, 3), 2);
        subscribe(desk, 0, 1, 0, 0, 1);
        send(desk, 0, 0, 3);
        Check.due("on", desk.place(0, 3), 4);
        send(desk, 0, 0, 4);
        Check.due("round", desk.place(0, 3), 1);
        Wire.tell(desk, 0, 2, 2);
        desk.shut(1);
        send(desk, 0, 0, 5);
        Check.due("alone: the same again", desk.place(0, 3), 1);
        // Another queue has a ring of its own.
        subscribe(desk, 0, 0, 1, 0, 1);
        subscribe(desk, 0, 2, 1, 0, 1);
        send(desk, 0, 1, 6);
        Check.due("from 0 on", desk.place(1, 3), 0);
    }

    private static void modesAndCredit() {
        for (int mode = 0; mode < 3; mode++) {
            for (int credit = 1; credit <= 5; credit++) {
                BrokerDesk desk = Wire.opened(2);
                subscribe(desk, 0, 0, 0, mode, credit);
                for (int k = 0; k < 7; k++) {
                    send(desk, 1, 0, k);
                }
                String what = "mode " + mode + " credit " + credit;
                Check.due(what + ": held", desk.subscription(0, 0, 3), mode == 0 ? 0 : credit);
                Check.due(what + ": oldest", desk.subscription(0, 0, 4), mode == 0 ? -1 : 0);
                Check.due(what + ": given", desk.place(0, 1), mode == 0 ? 7 : credit);
                Check.due(what + ": wait", desk.place(0, 0), mode == 0 ? 0 : 7 - credit);
                Check.due(what + ": next tag", desk.session(0, 5), mode == 0 ? 7 : credit);
            }
        }
    }

    private static BrokerDesk holding(int mode) {
        BrokerDesk desk = Wire.opened(2);
        subscribe(desk, 0, 1, 0, mode, 5);
        for (int k = 0; k < 5; k++) {
            send(desk, 1, 0, 10 + k);
        }
        return desk;
    }

    private static void takenOne() {
        BrokerDesk desk = holding(1);
        Wire.tell(desk, 0, 4, 2, 0);
        Check.due("one less", desk.subscription(0, 1, 3), 4);
        Check.due("the oldest stays", desk.subscription(0, 1, 4), 0);
        Wire.tell(desk, 0, 4, 2, 0);
        Check.due("not twice", desk.subscription(0, 1, 3), 4);
        Wire.tell(desk, 0, 4, 5, 0);
        Check.due("none has that tag", desk.subscription(0, 1, 3), 4);
        Wire.tell(desk, 0, 4, 0, 0);
        Check.due("the oldest one", desk.subscription(0, 1, 4), 1);
        Check.due("all are right", desk.session(0, 3), 0);
        Check.due("and counted", desk.session(0, 4), 5);
        Wire.tell(desk, 0, 2, 1);
        dueItems("those that it held come back", desk, 0, 11, 13, 14);
        Check.due("none is lost", desk.place(0, 2), 0);
    }

    private static void takenUpTo() {
        BrokerDesk desk = holding(2);
        Wire.tell(desk, 0, 4, 2, 0);
        Check.due("three less", desk.subscription(0, 1, 3), 2);
        Check.due("the oldest", desk.subscription(0, 1, 4), 3);
        Wire.tell(desk, 0, 4, 1, 0);
        Check.due("it went with the other", desk.subscription(0, 1, 3), 2);
        send(desk, 1, 0, 20);
        Check.due("again one more", desk.subscription(0, 1, 3), 3);
        Wire.tell(desk, 0, 4, 5, 0);
        Check.due("all", desk.subscription(0, 1, 3), 0);
        Check.due("none is the oldest", desk.subscription(0, 1, 4), -1);
        Check.due("none came back", desk.place(0, 0), 0);
    }

    private static void refused() {
        BrokerDesk desk = holding(1);
        for (int k = 20; k < 23; k++) {
            send(desk, 1, 0, k);
        }
        dueItems("wait", desk, 0, 20, 21, 22);
        Wire.tell(desk, 0, 5, 3, 0);
        // It came to the front and was given again at once.
        dueItems("wait still", desk, 0, 20, 21, 22);
        Check.due("given again", desk.place(0, 1), 6);
        Check.due("next tag", desk.session(0, 5), 6);
        Check.due("held", desk.subscription(0, 1, 3), 5);
        Wire.dueOutput("the same body", desk, 0, 129, 4, 1, 1, 0, 10, 129, 4, 1, 1, 1, 11, 129, 4, 1, 1, 2, 12,
            129, 4, 1, 1, 3, 13, 129, 4, 1, 1, 4, 14, 129, 4, 1, 1, 5, 13);
        Wire.tell(desk, 0, 5, 9, 0);
        Check.due("none has that tag", desk.place(0, 1), 6);
        desk.shut(0);
        dueItems("all come back", desk, 0, 10, 11, 12, 14, 13, 20, 21, 22);
        Check.due("no tries of the first", desk.place(0, 4), 0);
    }

    private static void refusedOrder() {
        BrokerDesk desk = holding(2);
        Wire.fillOutput(desk, 0, 5);
        send(desk, 1, 0, 20);
        Wire.tell(desk, 0, 5, 2, 0);
        dueItems("in the order in which they were given", desk, 0, 10, 11, 12, 20);
        Check.due("one try", desk.place(0, 4), 1);
        Check.due("two are held", desk.subscription(0, 1, 3), 2);
        Check.due("the oldest", desk.subscription(0, 1, 4), 3);
        Wire.tell(desk, 0, 5, 4, 0);
        dueItems("before the others", desk, 0, 13, 14, 10, 11, 12, 20);
        Check.due("none is lost", desk.place(0, 2), 0);
    }

    private static void threeTries() {
        BrokerDesk desk = Wire.opened(2);
        send(desk, 1, 0, 10);
        send(desk, 1, 0, 11);
        subscribe(desk, 0, 0, 0, 1, 1);
        for (int k = 0; k < 2; k++) {
            Wire.tell(desk, 0, 5, k, 0);
            Check.due("given again", desk.subscription(0, 0, 4), k + 1);
            Check.due("none is lost", desk.place(0, 2), 0);
            Check.due("the other one waits", desk.item(0, 0, 0), 11);
        }
        Wire.tell(desk, 0, 5, 2, 0);
        Check.due("lost", desk.place(0, 2), 1);
        Check.due("the other one is given", desk.place(0, 0), 0);
        Check.due("given", desk.place(0, 1), 4);
        Wire.tell(desk, 0, 2, 0);
        dueItems("it has no tries of that one", desk, 0, 11);
        Check.due("its tries", desk.place(0, 4), 0);
        send(desk, 1, 1, 12);
        Check.due("nor has a new one", desk.place(1, 4), 0);
    }

    private static void noRoomToComeBack() {
        BrokerDesk desk = Wire.opened(2);
        subscribe(desk, 0, 0, 2, 2, 4);
        for (int k = 0; k < 10; k++) {
            send(desk, 1, 2, k);
        }
        Wire.fillOutput(desk, 0, 5);
        Wire.tell(desk, 0, 5, 3, 0);
        // The one given last comes first, so the oldest ones are lost.
        dueItems("two come back", desk, 2, 2, 3, 4, 5, 6, 7, 8, 9);
        Check.due("two are lost", desk.place(2, 2), 2);
        Check.due("tries", desk.place(2, 4), 1);
        Check.due("none is held", desk.subscription(0, 0, 3), 0);
    }

    private static void endsWithTries() {
        BrokerDesk desk = Wire.opened(2);
        subscribe(desk, 0, 0, 0, 1, 1);
        send(desk, 1, 0, 33);
        Wire.tell(desk, 0, 5, 0, 0);
        Wire.tell(desk, 0, 5, 1, 0);
        for (int round = 0; round < 3; round++) {
            Check.due("held", desk.subscription(0, 0, 3), 1);
            Wire.tell(desk, 0, 2, 0);
            dueItems("comes back", desk, 0, 33);
            Check.due("tries stay", desk.place(0, 4), 2);
            subscribe(desk, 0, 0, 0, 1, 1);
        }
        Wire.feed(desk, 0, 2);
        Check.due("a fault adds no tries", desk.place(0, 4), 2);
        desk.shut(0);
        desk.open(0);
        subscribe(desk, 0, 0, 0, 1, 1);
        Wire.tell(desk, 0, 5, 0, 0);
        Check.due("the third one", desk.place(0, 2), 1);
    }

    /** Tags are of the session: another session's are not meant, another subscription's are. */
    private static void othersTags() {
        BrokerDesk desk = Wire.opened(2);
        subscribe(desk, 0, 0, 0, 2, 3);
        subscribe(desk, 0, 3, 1, 2, 3);
        subscribe(desk, 1, 0, 2, 1, 3);
        send(desk, 0, 0, 1);
        send(desk, 0, 1, 2);
        send(desk, 0, 0, 3);
        send(desk, 0, 1, 4);
        send(desk, 0, 2, 5);
        Wire.tell(desk, 0, 4, 3, 0);
        Check.due("those of this subscription", desk.subscription(0, 3, 3), 0);
        Check.due("not those of another one", desk.subscription(0, 0, 3), 2);
        Check.due("nor those of another session", desk.subscription(1, 0, 3), 1);
        Wire.tell(desk, 1, 4, 2, 0);
        Check.due("a tag of another session", desk.subscription(0, 0, 3), 2);
        Wire.tell(desk, 1, 4, 0, 0);
        Check.due("its own", desk.subscription(1, 0, 3), 0);
        Check.due("the other one's 0 stays", desk.subscription(0, 0, 4), 0);
        send(desk, 0, 2, 6);
        Check.due("held", desk.subscription(1, 0, 4), 1);
        Wire.tell(desk, 0, 4, 1, 0);
        Check.due("none of this session has 1", desk.subscription(1, 0, 4), 1);
    }

    /**
     * More items go than can ever be there at once, by each way that they can go.
     * Some of these ways take more than 512 calls: no item may be left behind even so.
     */
    private static void manyItems() {
        for (int way = 0; way < 4; way++) {
            BrokerDesk desk = Wire.opened(1);
            subscribe(desk, 0, 0, 2, way == 0 ? 0 : 1, 1);
            for (int k = 0; k < 120; k++) {
                send(desk, 0, 2, k);
                int tag = desk.session(0, 5) - 1;
                if (way == 1) {
                    Wire.tell(desk, 0, 4, tag, 0);
                }
                for (int tries = 0; way == 2 && tries < 3; tries++) {
                    Wire.tell(desk, 0, 5, tag + tries & 255, 0);
                }
                if (way == 3 && k < 110) {
                    Check.due("way 3: wait", desk.place(2, 0), Math.min(8, k));
                }
                Wire.drain(desk, 0);
            }
            int given = way == 2 ? 360 : way == 3 ? 1 : 120;
            Check.due("way " + way + ": given", desk.place(2, 1), given);
            Check.due("way " + way + ": lost", desk.place(2, 2), way == 2 ? 120 : way == 3 ? 111 : 0);
        }
    }

    private static void firstBlocks() {
        BrokerDesk desk = Wire.opened(2);
        subscribe(desk, 0, 0, 0, 0, 1);
        Wire.fillOutput(desk, 0, 8);
        send(desk, 1, 0, 1, 2, 3, 4);
        send(desk, 1, 0, 5);
        dueItems("the second one waits behind the first", desk, 0, 1, 5);
        Check.due("ready for the second", desk.ready(0, 3), 1);
        Check.due("not for the first", desk.ready(0, 4), 0);
        subscribe(desk, 1, 2, 0, 1, 1);
        dueItems("another one has room", desk, 0);
        Check.due("for the first", desk.session(1, 1), 9);
        Check.due("then the ring goes on", desk.place(0, 3), 0);
    }

    private static void queuesInOrder() {
        BrokerDesk desk = Wire.opened(2);
        subscribe(desk, 0, 0, 2, 0, 1);
        subscribe(desk, 0, 1, 1, 0, 1);
        subscribe(desk, 0, 2, 0, 0, 1);
        Wire.fillOutput(desk, 0, 5);
        send(desk, 1, 2, 1);
        send(desk, 1, 1, 2);
        send(desk, 1, 0, 3);
        for (int t = 0; t < 3; t++) {
            desk.take(0, 6);
            for (int other = 0; other < 3; other++) {
                Check.due("round " + t + ": queue " + other, desk.place(other, 0), other <= t ? 0 : 1);
            }
        }
    }

    private static void readyCounts() {
        BrokerDesk desk = Wire.opened(4);
        for (int session = 0; session < 4; session++) {
            for (int s = 0; s < 4; s++) {
                subscribe(desk, session, s, s == 3 ? 4 : 1, s % 3, 1);
            }
        }
        Check.due("ready for 1", desk.ready(1, 16), 12);
        Check.due("ready for 4", desk.ready(4, 16), 4);
        Check.due("ready for 0", desk.ready(0, 16), 0);
        send(desk, 0, 1, 1);
        send(desk, 0, 1, 1);
        Check.due("one holds as much as it may", desk.ready(1, 16), 11);
        Wire.tell(desk, 0, 4, 1, 0);
        Check.due("and no more", desk.ready(1, 16), 12);
        Wire.fillOutput(desk, 3, 15);
        Check.due("room for 10", desk.ready(1, 10), 12);
        Check.due("no room for 11", desk.ready(1, 11), 9);
        Check.due("nor of the stream", desk.ready(4, 11), 3);
        Wire.feed(desk, 2, 2);
        Check.due("a closing one can not", desk.ready(1, 1), 9);
        desk.shut(1);
        Check.due("nor a shut one", desk.ready(1, 1), 6);
    }
}
