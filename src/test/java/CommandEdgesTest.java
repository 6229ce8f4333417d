import java.util.Arrays;
import java.util.function.IntPredicate;

/** The sentences on COMMANDS and TRANSACTIONS that name a bound: each byte with all its values, each length. */
public final class CommandEdgesTest {
    public static void main(String[] args) {
        subscribe();
        unsubscribe();
        send();
        takeAndRefuse();
        begin();
        commitAndDrop();
        echo();
        otherCommands();
        bodies();
        subscriptionsThereOrNot();
        begunOrNot();
        emptyTransactions();
        sixAreKept();
        sixInASession();
        roomForKeptAgain();
        countedOnce();
        faultDropsAll();
        Check.end();
    }

    /** SUBSCRIPTION 1 is there, TRANSACTION 2 is begun, and session 1 has others of both. */
    private static BrokerDesk prepared() {
        BrokerDesk desk = Wire.opened(2);
        Wire.tell(desk, 0, 1, 1, 4, 1, 1);
        Wire.tell(desk, 0, 6, 2);
        Wire.tell(desk, 1, 1, 0, 4, 1, 1);
        Wire.tell(desk, 1, 1, 2, 4, 1, 1);
        Wire.tell(desk, 1, 6, 1);
        return desk;
    }

    private static void due(boolean right, int... command) {
        BrokerDesk desk = prepared();
        String what = Arrays.toString(command);
        Wire.tell(desk, 0, command);
        Check.due(what + ": state", desk.session(0, 0), right ? BrokerDesk.OPEN : BrokerDesk.CLOSING);
        Check.due(what + ": fault", desk.session(0, 3), right ? 0 : 8);
        Check.due(what + ": counted", desk.session(0, 4), right ? 3 : 2);
        Check.due(what + ": kept", desk.session(0, 6), right && isKept(command) ? 1 : 0);
        Check.due(what + ": begun", desk.session(0, 7), right ? begunAfter(command[0]) : 0);
        if (!right) {
            Wire.dueOutput(what, desk, 0, 136, 1, 8);
            for (int t = 0; t < 6; t++) {
                Check.due(what + ": items of " + t, desk.place(t, 0), 0);
                Check.due(what + ": given from " + t, desk.place(t, 1), 0);
                Check.due(what + ": lost of " + t, desk.place(t, 2), 0);
            }
        }
    }

    private static boolean isKept(int[] command) {
        return command[0] >= 3 && command[0] <= 5 && command[2] != 0;
    }

    private static int begunAfter(int op) {
        return op == 6 ? 3 : op == 7 || op == 8 ? 0 : 2;
    }

    /** "FAULT 8 if a byte is not as said": byte k of a right COMMAND has each value in turn. */
    private static void dueByte(int k, IntPredicate right, int... command) {
        for (int b = 0; b < 256; b++) {
            int[] other = command.clone();
            other[k] = b;
            due(right.test(b), other);
        }
    }

    /** "or there are more or fewer" */
    private static void dueLength(int... command) {
        due(true, command);
        for (int n = 0; n < command.length; n++) {
            due(false, Arrays.copyOf(command, n));
        }
        due(false, Arrays.copyOf(command, command.length + 1));
        due(false, Arrays.copyOf(command, 20));
        due(false, Arrays.copyOf(command, 200));
    }

    /** "1 s t m c: s, which is not there, is for t from now on, with MODE m (0..2) and CREDIT c (1..5)." */
    private static void subscribe() {
        dueByte(1, s -> s == 0 || s == 2 || s == 3, 1, 0, 0, 0, 1);
        dueByte(2, t -> t <= 5, 1, 0, 0, 0, 1);
        dueByte(3, m -> m <= 2, 1, 0, 0, 0, 1);
        dueByte(4, c -> c >= 1 && c <= 5, 1, 0, 0, 0, 1);
        dueByte(4, c -> c >= 1 && c <= 5, 1, 0, 3, 2, 1);
        dueLength(1, 0, 0, 0, 1);
        dueLength(1, 3, 5, 2, 5);
    }

    /** "2 s: s, which is there, ENDS." */
    private static void unsubscribe() {
        dueByte(1, s -> s == 1, 2, 1);
        dueLength(2, 1);
    }

    /** "3 t x and a BODY: it is SENT to t." */
    private static void send() {
        dueByte(1, t -> t <= 5, 3, 0, 0, 50);
        dueByte(1, t -> t <= 5, 3, 0, 2, 50);
        dueByte(2, x -> x == 0 || x == 2, 3, 0, 0, 50);
        dueByte(3, b -> true, 3, 0, 0, 50);
        for (int n = 0; n <= 3; n++) {
            due(false, Arrays.copyOf(Wire.bytes(3, 0, 0), n));
            due(false, Arrays.copyOf(Wire.bytes(3, 0, 2), n));
        }
    }

    /** "4 n x: TAKEN. 5 n x: REFUSED." */
    private static void takeAndRefuse() {
        for (int op = 4; op <= 5; op++) {
            dueByte(1, n -> true, op, 0, 0);
            dueByte(1, n -> true, op, 0, 2);
            dueByte(2, x -> x == 0 || x == 2, op, 0, 0);
            dueLength(op, 0, 0);
            dueLength(op, 0, 2);
        }
    }

    /** "6 x: TRANSACTION x (1 or 2, not begun) is begun." */
    private static void begin() {
        dueByte(1, x -> x == 1, 6, 1);
        dueLength(6, 1);
    }

    /** "7 x: (begun) all that was to be done in it is done, in order. 8 x: (begun) it is dropped." */
    private static void commitAndDrop() {
        for (int op = 7; op <= 8; op++) {
            dueByte(1, x -> x == 2, op, 2);
            dueLength(op, 2);
        }
    }

    /** "9 k: the SESSION gets a message 9 k." */
    private static void echo() {
        dueByte(1, k -> true, 9, 0);
        dueLength(9, 0);
        for (int k : new int[] {0, 127, 128, 255}) {
            BrokerDesk desk = Wire.opened(1);
            Wire.tell(desk, 0, 9, k);
            Wire.dueOutput("9 " + k, desk, 0, 129, 2, 9, k);
        }
    }

    /** "COMMANDS, by their first byte" */
    private static void otherCommands() {
        due(false);
        for (int n = 1; n <= 6; n++) {
            for (int op : new int[] {0, 10, 11, 127, 128, 254, 255}) {
                due(false, Arrays.copyOf(Wire.bytes(op, 1, 0, 0, 1, 0), n));
            }
        }
        dueByte(0, op -> op == 2 || op == 6 || op == 9, 2, 1);
        dueByte(0, op -> op == 7 || op == 8 || op == 9, 7, 2);
        dueByte(0, op -> op == 4 || op == 5, 4, 0, 0);
        dueByte(0, op -> op == 3, 3, 0, 0, 1);
        dueByte(0, op -> op == 1 || op == 3, 1, 0, 0, 0, 1);
    }

    /** "An ITEM has a BODY of 1 to 16 bytes, and TRIES (0 at first)." */
    private static void bodies() {
        for (int n = 0; n <= 20; n++) {
            int[] body = Wire.count(n, 250);
            for (int t = 0; t < 6; t++) {
                due(n >= 1 && n <= 16, Wire.join(Wire.bytes(3, t, 0), body));
                due(n >= 1 && n <= 16, Wire.join(Wire.bytes(3, t, 2), body));
            }
        }
        for (int n = 1; n <= 16; n += 15) {
            for (int x = 0; x <= 1; x++) {
                BrokerDesk desk = Wire.opened(1);
                Wire.tell(desk, 0, 6, 1);
                Wire.tell(desk, 0, Wire.join(Wire.bytes(3, 2, x), Wire.count(n, 250)));
                Wire.tell(desk, 0, 7, 1);
                for (int k = 0; k < n; k++) {
                    Check.due("byte " + k + " of " + n, desk.item(2, 0, k), (250 + k) & 255);
                }
                Check.due("behind the last of " + n, desk.item(2, 0, n), -1);
                Check.due("no TRIES at first", desk.place(2, 4), 0);
            }
        }
        BrokerDesk desk = prepared();
        Wire.tell(desk, 0, Wire.join(Wire.bytes(3, 0, 0), Wire.fill(200 - 3, 1)));
        Check.due("the longest message", desk.session(0, 3), 8);
    }

    /** "SUBSCRIPTIONS 0..3, each there or not", "s, which is not there", "s, which is there" */
    private static void subscriptionsThereOrNot() {
        for (int s = 0; s < 4; s++) {
            BrokerDesk desk = Wire.opened(1);
            Check.due("not at first", desk.subscription(0, s, 0), -1);
            Wire.tell(desk, 0, 1, s, 5, 2, 5);
            Check.due("there", desk.subscription(0, s, 0), 5);
            Wire.tell(desk, 0, 2, s);
            Check.due("there no more", desk.subscription(0, s, 0), -1);
            Wire.tell(desk, 0, 1, s, 0, 0, 1);
            Check.due("there again", desk.subscription(0, s, 0), 0);
            Check.due("with another MODE", desk.subscription(0, s, 1), 0);
            Check.due("with another CREDIT", desk.subscription(0, s, 2), 1);
            for (int other = 0; other < 4; other++) {
                Check.due("and that one alone", desk.subscription(0, other, 2), other == s ? 1 : -1);
            }
            Wire.tell(desk, 0, 1, s, 0, 0, 1);
            Check.due("not twice", desk.session(0, 3), 8);
            desk = Wire.opened(1);
            Wire.tell(desk, 0, 1, s, 5, 2, 5);
            Wire.tell(desk, 0, 2, s);
            Wire.tell(desk, 0, 2, s);
            Check.due("nor ended twice", desk.session(0, 3), 8);
        }
    }

    /** "TRANSACTIONS 1, 2, begun or not" */
    private static void begunOrNot() {
        for (int x = 1; x <= 2; x++) {
            for (int op = 7; op <= 8; op++) {
                BrokerDesk desk = Wire.opened(1);
                Wire.tell(desk, 0, 6, x);
                Check.due("begun", desk.session(0, 7), x);
                Wire.tell(desk, 0, 6, 3 - x);
                Check.due("both", desk.session(0, 7), 3);
                Wire.tell(desk, 0, op, x);
                Check.due("the other one", desk.session(0, 7), 3 - x);
                Wire.tell(desk, 0, 6, x);
                Check.due("both again", desk.session(0, 7), 3);
                Wire.tell(desk, 0, op, 3 - x);
                Wire.tell(desk, 0, op, x);
                Check.due("none", desk.session(0, 7), 0);
                Check.due("six COMMANDS", desk.session(0, 4), 6);
                Wire.tell(desk, 0, op, x);
                Check.due("not begun any more", desk.session(0, 3), 8);
                for (int kept = 3; kept <= 5; kept++) {
                    desk = Wire.opened(1);
                    Wire.tell(desk, 0, 6, x);
                    Wire.tell(desk, 0, op, x);
                    Wire.tell(desk, 0, Arrays.copyOf(Wire.bytes(kept, 0, x, 1), kept == 3 ? 4 : 3));
                    Check.due("nothing is kept in it any more", desk.session(0, 3), 8);
                }
            }
            BrokerDesk desk = Wire.opened(1);
            Wire.tell(desk, 0, 6, x);
            Wire.tell(desk, 0, 6, x);
            Check.due("not begun twice", desk.session(0, 3), 8);
        }
    }

    /** "all that was to be done in it is done": of one in which nothing was to be done, nothing. */
    private static void emptyTransactions() {
        for (int op = 7; op <= 8; op++) {
            BrokerDesk desk = Wire.opened(1);
            Wire.tell(desk, 0, 6, 1);
            Wire.tell(desk, 0, 6, 2);
            Wire.tell(desk, 0, 3, 0, 2, 50);
            Wire.tell(desk, 0, op, 1);
            Check.due("nothing was to be done", desk.place(0, 0), 0);
            Check.due("the other one's is kept", desk.session(0, 6), 1);
        }
    }

    /** Keeps n, of both TRANSACTIONS and of all three COMMANDS. */
    private static BrokerDesk keeping(int n) {
        BrokerDesk desk = Wire.opened(2);
        Wire.tell(desk, 0, 6, 1);
        Wire.tell(desk, 0, 6, 2);
        for (int k = 0; k < n; k++) {
            int x = 1 + k % 2;
            Wire.tell(desk, 0, k % 3 == 0 ? Wire.bytes(3, 0, x, k) : Wire.bytes(3 + k % 3, 99, x));
        }
        return desk;
    }

    /** "with 6 of these kept in a SESSION: FAULT 8" */
    private static void sixAreKept() {
        for (int x = 1; x <= 2; x++) {
            for (int[] more : new int[][] {{3, 1, x, 7}, {4, 7, x}, {5, 7, x}}) {
                BrokerDesk desk = keeping(5);
                Check.due("five are kept", desk.session(0, 6), 5);
                Wire.tell(desk, 0, more);
                Check.due("the sixth is right", desk.session(0, 3), 0);
                Check.due("six are kept", desk.session(0, 6), 6);
                Wire.tell(desk, 0, more);
                Check.due("the seventh is not", desk.session(0, 3), 8);
                Check.due("nor is it counted", desk.session(0, 4), 8);
                Wire.dueOutput("the seventh", desk, 0, 136, 1, 8);
            }
        }
        for (int op = 3; op <= 5; op++) {
            BrokerDesk desk = keeping(6);
            Wire.tell(desk, 0, op == 3 ? Wire.bytes(3, 0, 0, 80) : Wire.bytes(op, 99, 0));
            Check.due("with x 0 it is not kept", desk.session(0, 3), 0);
            Check.due("so six are kept still", desk.session(0, 6), 6);
            Check.due("it is done", desk.place(0, 0), op == 3 ? 1 : 0);
            Wire.tell(desk, 0, 7, 1);
            Wire.tell(desk, 0, 7, 2);
            Check.due("the six are as they were", desk.place(0, 0), op == 3 ? 3 : 2);
            Check.due("their first one", desk.item(0, op == 3 ? 1 : 0, 0), 0);
            Check.due("their last one", desk.item(0, op == 3 ? 2 : 1, 0), 3);
        }
    }

    /** "kept in a SESSION": each has six of its own, as long as they can be, and what is not kept beside them. */
    private static void sixInASession() {
        BrokerDesk desk = Wire.opened(4);
        for (int session = 0; session < 4; session++) {
            Wire.tell(desk, session, 6, 1);
            for (int k = 0; k < 6; k++) {
                Wire.tell(desk, session, Wire.join(Wire.bytes(3, k % 3, 1), Wire.count(16, 50 * session + 8 * k)));
            }
        }
        for (int session = 3; session >= 0; session--) {
            Check.due("six are kept in " + session, desk.session(session, 6), 6);
            Wire.tell(desk, session, 3, 3, 0, 250, 251, 252, 253);
            Check.due("and no more in " + session, desk.session(session, 6), 6);
        }
        for (int session = 0; session < 4; session++) {
            Wire.tell(desk, session, 7, 1);
            Check.due("none is kept in " + session, desk.session(session, 6), 0);
        }
        for (int session = 0; session < 4; session++) {
            for (int k = 0; k < 6; k++) {
                int i = 2 * session + k / 3;
                int first = 50 * session + 8 * k;
                Check.due("the first byte, " + session + " " + k, desk.item(k % 3, i, 0), first);
                Check.due("the last byte, " + session + " " + k, desk.item(k % 3, i, 15), (first + 15) & 255);
            }
        }
        desk = keeping(6);
        Wire.tell(desk, 1, 6, 1);
        for (int k = 0; k < 6; k++) {
            Wire.tell(desk, 1, 3, 1, 1, 60 + k);
        }
        Wire.tell(desk, 1, 3, 1, 1, 66);
        Check.due("the seventh of another one", desk.session(1, 3), 8);
        Check.due("the first one's are kept still", desk.session(0, 6), 6);
        Check.due("it is OPEN", desk.session(0, 0), BrokerDesk.OPEN);
    }

    /** "3, 4, 5 with an x above 0 are kept until 7": then, and with 8, there is room for others. */
    private static void roomForKeptAgain() {
        for (int op = 7; op <= 8; op++) {
            BrokerDesk desk = keeping(6);
            Wire.tell(desk, 0, op, 1);
            Check.due("three are kept", desk.session(0, 6), 3);
            for (int k = 0; k < 3; k++) {
                Wire.tell(desk, 0, 3, 2, 2, 90 + k);
            }
            Check.due("six again", desk.session(0, 6), 6);
            Check.due("no fault", desk.session(0, 3), 0);
            Wire.tell(desk, 0, 7, 2);
            Check.due("all of them are done", desk.place(2, 0), 3);
            Check.due("in order", desk.item(2, 0, 0), 90);
            Check.due("in order", desk.item(2, 2, 0), 92);
            Check.due("none is kept", desk.session(0, 6), 0);
        }
    }

    /** "4 counts a COMMAND that is kept when it comes, and not again when 7 does it (7 counts as one)" */
    private static void countedOnce() {
        BrokerDesk desk = Wire.opened(1);
        Wire.tell(desk, 0, 6, 1);
        Check.due("6", desk.session(0, 4), 1);
        for (int k = 0; k < 6; k++) {
            Wire.tell(desk, 0, 3, 0, 1, k);
            Check.due("kept", desk.session(0, 4), 2 + k);
        }
        Wire.tell(desk, 0, 7, 1);
        Check.due("7", desk.session(0, 4), 8);
        Check.due("all six are done", desk.place(0, 0), 6);
        Wire.tell(desk, 0, 6, 1);
        Wire.tell(desk, 0, 3, 0, 1, 9);
        Wire.tell(desk, 0, 8, 1);
        Check.due("8, and what it dropped", desk.session(0, 4), 11);
        Wire.tell(desk, 0, 4, 200, 0);
        Check.due("one that finds nothing is done", desk.session(0, 4), 12);
        Wire.tell(desk, 0, 3, 3, 0, 1);
        Check.due("one that none gets is done", desk.session(0, 4), 13);
        Wire.feed(desk, 0, Wire.frame(137, 1));
        Check.due("a CONTROL is none", desk.session(0, 4), 13);
        Wire.tell(desk, 0, 0);
        Check.due("not with a FAULT 8", desk.session(0, 4), 13);
    }

    /** "TRANSACTIONS are dropped" (when the SESSION ENDS): with each way to end. */
    private static void faultDropsAll() {
        int[][] ways = {{2}, Wire.frame(136), Wire.frame(129, 0), Wire.frame(193, 255), {129, 254, 1, 0}};
        for (int way = 0; way <= ways.length; way++) {
            BrokerDesk desk = keeping(6);
            if (way < ways.length) {
                Wire.feed(desk, 0, ways[way]);
                Check.due("none is kept, way " + way, desk.session(0, 6), 0);
                Check.due("none is begun, way " + way, desk.session(0, 7), 0);
            }
            Check.due("shut", desk.shut(0), true);
            desk.open(0);
            Check.due("opens with none kept, way " + way, desk.session(0, 6), 0);
            Check.due("opens with none begun, way " + way, desk.session(0, 7), 0);
            Wire.tell(desk, 0, 6, 1);
            Wire.tell(desk, 0, 6, 2);
            Wire.tell(desk, 0, 7, 1);
            Wire.tell(desk, 0, 7, 2);
            Check.due("nothing is done, way " + way, desk.place(0, 0), 0);
            Check.due("no fault, way " + way, desk.session(0, 3), 0);
        }
    }
}
