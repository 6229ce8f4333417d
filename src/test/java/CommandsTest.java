/** Promises 4, 8 and 14: which commands are right, what they do, and transactions. */
public final class CommandsTest {
    public static void main(String[] args) {
        rightAndWrong();
        everyFirstByte();
        bodies();
        transactionsAreKept();
        transactionsAreDoneInOrder();
        sixAreKept();
        transactionsOfTheirSession();
        subscriptionsOfTheirSession();
        Check.end();
    }

    /** A session with subscription 1 there and transaction 2 begun. */
    private static BrokerDesk prepared() {
        BrokerDesk desk = Wire.opened(1);
        Wire.tell(desk, 0, 1, 1, 4, 1, 1);
        Wire.tell(desk, 0, 6, 2);
        return desk;
    }

    private static void right(int... command) {
        BrokerDesk desk = prepared();
        String what = "right " + java.util.Arrays.toString(command);
        Wire.tell(desk, 0, command);
        Check.due(what, desk.session(0, 0), BrokerDesk.OPEN);
        Check.due(what + ": fault", desk.session(0, 3), 0);
        Check.due(what + ": counted", desk.session(0, 4), 3);
    }

    private static void wrong(int... command) {
        BrokerDesk desk = prepared();
        String what = "wrong " + java.util.Arrays.toString(command);
        int[] frame = Wire.frame(129, command);
        Check.due(what, Wire.feed(desk, 0, Wire.join(frame, Wire.bytes(129))), frame.length);
        Check.due(what, desk.session(0, 0), BrokerDesk.CLOSING);
        Check.due(what + ": fault", desk.session(0, 3), 8);
        Check.due(what + ": not counted", desk.session(0, 4), 2);
        Wire.dueOutput(what, desk, 0, 136, 1, 8);
        Wire.duePast(what, desk, 0, command);
        Check.due(what + ": subscription 0", desk.subscription(0, 0, 0), -1);
        Check.due(what + ": place 0", desk.place(0, 0), 0);
    }

    private static void rightAndWrong() {
        right(1, 0, 0, 0, 1);
        right(1, 3, 5, 2, 5);
        wrong(1, 4, 0, 0, 1);
        wrong(1, 1, 0, 0, 1);
        wrong(1, 0, 6, 0, 1);
        wrong(1, 0, 255, 0, 1);
        wrong(1, 0, 0, 3, 1);
        wrong(1, 0, 0, 0, 0);
        wrong(1, 0, 0, 0, 6);
        wrong(1, 0, 0, 0);
        wrong(1, 0, 0, 0, 1, 0);
        wrong(1);
        right(2, 1);
        wrong(2, 0);
        wrong(2, 4);
        wrong(2, 255);
        wrong(2);
        wrong(2, 1, 0);
        right(3, 0, 0, 7);
        right(3, 5, 2, 7);
        wrong(3, 6, 0, 7);
        wrong(3, 0, 1, 7);
        wrong(3, 0, 3, 7);
        wrong(3, 0, 255, 7);
        wrong(3, 0, 0);
        wrong(3);
        for (int op = 4; op <= 5; op++) {
            right(op, 0, 0);
            right(op, 255, 0);
            right(op, 255, 2);
            wrong(op, 0, 1);
            wrong(op, 0, 3);
            wrong(op, 0);
            wrong(op, 0, 0, 0);
            wrong(op);
        }
        right(6, 1);
        wrong(6, 2);
        wrong(6, 0);
        wrong(6, 3);
        wrong(6);
        wrong(6, 1, 0);
        for (int op = 7; op <= 8; op++) {
            right(op, 2);
            wrong(op, 1);
            wrong(op, 0);
            wrong(op, 3);
            wrong(op);
            wrong(op, 2, 0);
        }
        right(9, 0);
        right(9, 255);
        wrong(9);
        wrong(9, 0, 0);
    }

    private static void everyFirstByte() {
        wrong();
        wrong(0);
        wrong(0, 0);
        for (int op = 10; op < 256; op++) {
            wrong(op, 1);
        }
    }

    private static void bodies() {
        for (int n = 1; n <= 16; n++) {
            BrokerDesk desk = Wire.opened(1);
            Wire.tell(desk, 0, Wire.join(Wire.bytes(3, 2, 0), Wire.count(n, 240)));
            Check.due("a body of " + n, desk.item(2, 0, n - 1), (239 + n) & 255);
            Check.due("and no more", desk.item(2, 0, n), -1);
        }
        wrong(Wire.join(Wire.bytes(3, 2, 0), Wire.count(17, 240)));
        wrong(Wire.join(Wire.bytes(3, 2, 2), Wire.count(17, 240)));
    }

    private static void transactionsAreKept() {
        BrokerDesk desk = Wire.opened(1);
        Wire.tell(desk, 0, 1, 0, 0, 1, 1);
        Wire.tell(desk, 0, 3, 0, 0, 50);
        Wire.tell(desk, 0, 6, 1);
        Wire.tell(desk, 0, 6, 2);
        Wire.tell(desk, 0, 3, 1, 1, 51);
        Wire.tell(desk, 0, 3, 1, 2, 52, 53);
        Wire.tell(desk, 0, 4, 0, 2);
        Wire.tell(desk, 0, 3, 1, 1, 54);
        Check.due("nothing is sent", desk.place(1, 0), 0);
        Check.due("nothing is taken", desk.subscription(0, 0, 3), 1);
        Check.due("four are kept", desk.session(0, 6), 4);
        Check.due("counted when they come", desk.session(0, 4), 8);
        Wire.tell(desk, 0, 3, 1, 0, 55);
        Check.due("without a transaction at once", desk.item(1, 0, 0), 55);
        Check.due("still four are kept", desk.session(0, 6), 4);
        Wire.tell(desk, 0, 7, 1);
        Check.due("two more", desk.place(1, 0), 3);
        Check.due("in order", desk.item(1, 1, 0), 51);
        Check.due("in order", desk.item(1, 2, 0), 54);
        Check.due("two are kept", desk.session(0, 6), 2);
        Check.due("2 is begun", desk.session(0, 7), 2);
        Check.due("7 counts once", desk.session(0, 4), 10);
        Wire.tell(desk, 0, 6, 1);
        Wire.tell(desk, 0, 7, 1);
        Check.due("begun anew it has nothing", desk.place(1, 0), 3);
        Wire.tell(desk, 0, 7, 2);
        Check.due("the other one is done", desk.item(1, 3, 1), 53);
        Check.due("and took", desk.subscription(0, 0, 3), 0);
        Wire.tell(desk, 0, 6, 1);
        Wire.tell(desk, 0, 3, 1, 1, 60);
        Wire.tell(desk, 0, 8, 1);
        Check.due("dropped", desk.session(0, 6), 0);
        Wire.tell(desk, 0, 6, 1);
        Wire.tell(desk, 0, 7, 1);
        Check.due("what was dropped is never done", desk.place(1, 0), 4);
    }

    private static void transactionsAreDoneInOrder() {
        BrokerDesk desk = Wire.opened(2);
        Wire.tell(desk, 0, 1, 0, 0, 1, 1);
        for (int k = 1; k <= 8; k++) {
            Wire.tell(desk, 1, 3, 0, 0, k);
        }
        Check.due("seven wait", desk.place(0, 0), 7);
        Wire.tell(desk, 0, 6, 1);
        Wire.tell(desk, 0, 3, 0, 1, 100);
        Wire.tell(desk, 0, 3, 0, 1, 101);
        Wire.tell(desk, 0, 5, 0, 1);
        Wire.tell(desk, 0, 7, 1);
        // Nothing is given before all is done: 101 and the one that comes back find 8 there.
        Check.due("two are lost", desk.place(0, 2), 2);
        Check.due("then one is given", desk.place(0, 0), 7);
        Check.due("the first one", desk.item(0, 0, 0), 3);
        Check.due("the last one", desk.item(0, 6, 0), 100);
        Check.due("given", desk.place(0, 1), 2);
    }

    private static void sixAreKept() {
        for (int op = 3; op <= 5; op++) {
            BrokerDesk desk = Wire.opened(1);
            int[] command = op == 3 ? Wire.bytes(3, 2, 1, 7) : Wire.bytes(op, 7, 1);
            Wire.tell(desk, 0, 6, 1);
            Wire.tell(desk, 0, 6, 2);
            for (int k = 0; k < 6; k++) {
                Wire.tell(desk, 0, 3, 2, 1 + k % 2, k);
            }
            Check.due("six are kept", desk.session(0, 6), 6);
            Wire.tell(desk, 0, 3, 2, 0, 9);
            Wire.tell(desk, 0, 4, 9, 0);
            Wire.tell(desk, 0, 5, 9, 0);
            Check.due("without a transaction there is no limit", desk.session(0, 3), 0);
            Check.due("nor is one kept", desk.session(0, 6), 6);
            Wire.tell(desk, 0, command);
            Check.due("the seventh one", desk.session(0, 3), 8);
            Check.due("none is counted", desk.session(0, 4), 11);
            Check.due("all are dropped", desk.session(0, 6), 0);
            Check.due("none is begun", desk.session(0, 7), 0);
            Check.due("none is sent", desk.place(2, 0), 1);
        }
        BrokerDesk desk = Wire.opened(1);
        Wire.tell(desk, 0, 6, 1);
        for (int k = 0; k < 6; k++) {
            Wire.tell(desk, 0, Wire.join(Wire.bytes(3, k % 3, 1), Wire.fill(16, k)));
        }
        Wire.tell(desk, 0, 7, 1);
        for (int k = 0; k < 6; k++) {
            for (int i = 0; i < 16; i++) {
                Check.due("sixteen bytes are kept", desk.item(k % 3, k / 3, i), k);
            }
        }
    }

    private static void subscriptionsOfTheirSession() {
        BrokerDesk desk = Wire.opened(2);
        Wire.tell(desk, 1, 1, 0, 0, 1, 1);
        Wire.tell(desk, 0, 2, 4);
        Check.due("4 is not the next session's first one", desk.session(0, 3), 8);
        Check.due("which is there still", desk.subscription(1, 0, 0), 0);
    }

    private static void transactionsOfTheirSession() {
        BrokerDesk desk = Wire.opened(2);
        Wire.tell(desk, 0, 6, 1);
        Wire.tell(desk, 0, 3, 0, 1, 70);
        Check.due("the other one has none", desk.session(1, 7), 0);
        Wire.tell(desk, 1, 6, 1);
        Wire.tell(desk, 1, 3, 0, 1, 71);
        Wire.tell(desk, 1, 7, 1);
        Check.due("its own is done", desk.item(0, 0, 0), 71);
        Check.due("and that alone", desk.place(0, 0), 1);
        desk.shut(0);
        desk.open(0);
        Wire.tell(desk, 0, 6, 1);
        Wire.tell(desk, 0, 7, 1);
        Check.due("what was kept went with the session", desk.place(0, 0), 1);
    }
}
