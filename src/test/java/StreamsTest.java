/** Promises 10, 12 and 14: streams give to all that can; tags begin again behind 255. */
public final class StreamsTest {
    public static void main(String[] args) {
        toAll();
        onlyThoseThatCan();
        roomInTurn();
        nothingComesBack();
        inTransactions();
        sameTagTwice();
        Check.end();
    }

    private static void toAll() {
        BrokerDesk desk = Wire.opened(3);
        Wire.tell(desk, 1, 1, 3, 3, 0, 1);
        Wire.tell(desk, 1, 1, 0, 3, 1, 1);
        Wire.tell(desk, 0, 1, 2, 3, 2, 1);
        Wire.tell(desk, 0, 1, 1, 4, 0, 1);
        Wire.tell(desk, 2, 3, 3, 0, 77, 78);
        Wire.dueOutput("session 0", desk, 0, 129, 5, 1, 2, 0, 77, 78);
        Wire.dueOutput("session 1", desk, 1, 129, 5, 1, 0, 0, 77, 78, 129, 5, 1, 3, 1, 77, 78);
        Wire.dueOutput("the sender", desk, 2);
        Check.due("given to three", desk.place(3, 1), 3);
        Check.due("the latest one", desk.place(3, 3), 7);
        Check.due("no items", desk.place(3, 0), 0);
        Check.due("no tries", desk.place(3, 4), 0);
        Check.due("none is lost", desk.place(3, 2), 0);
        Check.due("another stream gave none", desk.place(4, 1), 0);
        Check.due("nor has it a latest one", desk.place(4, 3), -1);
        Check.due("mode 0 holds none", desk.subscription(1, 3, 3), 0);
        Check.due("mode 1 does", desk.subscription(1, 0, 3), 1);
        Check.due("mode 2 does", desk.subscription(0, 2, 4), 0);
        Check.due("next tag", desk.session(1, 5), 2);
    }

    private static void onlyThoseThatCan() {
        BrokerDesk desk = Wire.opened(2);
        Wire.tell(desk, 0, 3, 5, 0, 1);
        Check.due("none is there", desk.place(5, 1), 0);
        Check.due("it is not kept", desk.place(5, 0), 0);
        Check.due("nor lost", desk.place(5, 2), 0);
        Wire.tell(desk, 0, 1, 0, 5, 1, 2);
        Check.due("nor given later", desk.session(0, 1), 0);
        Wire.tell(desk, 1, 1, 1, 5, 0, 1);
        for (int k = 0; k < 3; k++) {
            Wire.tell(desk, 0, 3, 5, 0, k);
        }
        Check.due("credit", desk.subscription(0, 0, 3), 2);
        Check.due("the other one gets all", desk.session(1, 5), 3);
        Check.due("given", desk.place(5, 1), 5);
        Wire.tell(desk, 0, 4, 0, 0);
        Check.due("none later", desk.session(0, 5), 2);
        Wire.tell(desk, 1, 3, 5, 0, 9);
        Check.due("but the next one", desk.session(0, 5), 3);
    }

    /** Each is asked in turn, with what those before it were given already in the output. */
    private static void roomInTurn() {
        BrokerDesk desk = Wire.opened(2);
        for (int s = 0; s < 4; s++) {
            Wire.tell(desk, 0, 1, s, 3, s % 2, 5);
        }
        Wire.fillOutput(desk, 0, 15);
        Check.due("each of them can", desk.ready(3, 1), 4);
        Wire.tell(desk, 1, 3, 3, 0, 1);
        Check.due("two of them could", desk.place(3, 1), 2);
        Check.due("the latest one", desk.place(3, 3), 1);
        Check.due("bytes", desk.session(0, 1), 237);
        Check.due("the second one holds it", desk.subscription(0, 1, 3), 1);
        Check.due("the fourth one does not", desk.subscription(0, 3, 3), 0);
        Check.due("none can any more", desk.ready(3, 1), 0);
    }

    private static void nothingComesBack() {
        BrokerDesk desk = Wire.opened(2);
        Wire.tell(desk, 0, 1, 0, 3, 2, 5);
        for (int k = 0; k < 5; k++) {
            Wire.tell(desk, 1, 3, 3, 0, k);
        }
        Wire.tell(desk, 0, 5, 1, 0);
        Check.due("refused up to 1", desk.subscription(0, 0, 3), 3);
        Check.due("the oldest", desk.subscription(0, 0, 4), 2);
        Wire.tell(desk, 0, 4, 2, 0);
        Check.due("taken up to 2", desk.subscription(0, 0, 3), 2);
        Wire.tell(desk, 0, 2, 0);
        for (int t = 0; t < 6; t++) {
            Check.due("place " + t + " has none", desk.place(t, 0), 0);
            Check.due("place " + t + " lost none", desk.place(t, 2), 0);
        }
        Check.due("none is given again", desk.place(3, 1), 5);
    }

    private static void inTransactions() {
        BrokerDesk desk = Wire.opened(1);
        Wire.tell(desk, 0, 1, 0, 4, 1, 1);
        Wire.tell(desk, 0, 6, 1);
        Wire.tell(desk, 0, 3, 4, 1, 1);
        Wire.tell(desk, 0, 3, 4, 1, 2);
        Wire.tell(desk, 0, 4, 0, 1);
        Wire.tell(desk, 0, 3, 4, 1, 3);
        Check.due("none so far", desk.place(4, 1), 0);
        Wire.tell(desk, 0, 7, 1);
        // The second one finds no credit, the third comes behind the taking.
        Wire.dueOutput("in order", desk, 0, 129, 4, 1, 0, 0, 1, 129, 4, 1, 0, 1, 3);
        Check.due("held", desk.subscription(0, 0, 4), 1);
    }

    /** 512 calls suffice for two items with the tag 0: the older one is meant, whoever holds it. */
    private static void sameTagTwice() {
        BrokerDesk desk = Wire.opened(1);
        Wire.tell(desk, 0, 1, 3, 3, 1, 1);
        Wire.tell(desk, 0, 3, 3, 0, 1);
        desk.take(0, 6);
        for (int s = 0; s < 3; s++) {
            Wire.tell(desk, 0, 1, s, 4, 0, 1);
        }
        for (int k = 0; k < 85; k++) {
            Wire.tell(desk, 0, 3, 4, 0, 2);
            if (k == 84) {
                Check.due("the last tag", desk.output(0, 16), 255);
            }
            desk.take(0, 7);
            desk.take(0, 7);
            desk.take(0, 4);
        }
        Check.due("next tag", desk.session(0, 5), 0);
        Wire.tell(desk, 0, 2, 0);
        Wire.tell(desk, 0, 1, 0, 5, 2, 5);
        Wire.tell(desk, 0, 3, 5, 0, 1);
        Wire.tell(desk, 0, 3, 5, 0, 1);
        Check.due("0 behind 255", desk.output(0, 4), 0);
        Check.due("both hold 0", desk.subscription(0, 0, 4), 0);
        Check.due("both hold 0", desk.subscription(0, 3, 4), 0);
        Wire.tell(desk, 0, 4, 0, 0);
        Check.due("the older one is taken", desk.subscription(0, 3, 3), 0);
        Check.due("the younger one is not", desk.subscription(0, 0, 3), 2);
        Wire.tell(desk, 0, 4, 0, 0);
        Check.due("then it is", desk.subscription(0, 0, 4), 1);
    }
}
