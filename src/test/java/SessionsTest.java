/** Promises 1, 2, 3 and 8: a new object, open, shut, session. */
public final class SessionsTest {
    public static void main(String[] args) {
        newObject();
        opening();
        shutting();
        counts();
        opensWithNothing();
        closing();
        Check.end();
    }

    private static void newObject() {
        BrokerDesk desk = new BrokerDesk();
        for (int session = 0; session < 4; session++) {
            for (int what = 0; what < 8; what++) {
                Check.due("new: session " + session + " " + what, desk.session(session, what), 0);
            }
            for (int s = 0; s < 4; s++) {
                Check.due("new: subscription", desk.subscription(session, s, 0), -1);
            }
            Check.due("new: output", desk.output(session, 0), -1);
            Check.due("new: past", desk.past(session, 0), -1);
        }
        for (int t = 0; t < 6; t++) {
            for (int what = 0; what < 5; what++) {
                Check.due("new: place " + t + " " + what, desk.place(t, what), what == 3 ? -1 : 0);
            }
            Check.due("new: item", desk.item(t, 0, 0), -1);
            Check.due("new: ready", desk.ready(t, 1), 0);
        }
        for (int wrong : new int[] {-1, 8, Integer.MIN_VALUE, Integer.MAX_VALUE}) {
            Check.due("session what " + wrong, desk.session(0, wrong), -1);
            Check.due("session " + wrong, desk.session(wrong, 0), -1);
        }
        Check.due("session 4", desk.session(4, 0), -1);
    }

    private static void opening() {
        BrokerDesk desk = new BrokerDesk();
        for (int wrong : new int[] {-1, 4, Integer.MIN_VALUE, Integer.MAX_VALUE}) {
            Check.due("open " + wrong, desk.open(wrong), false);
            Check.due("shut " + wrong, desk.shut(wrong), false);
        }
        Check.due("shut of a shut one", desk.shut(3), false);
        Check.due("open", desk.open(3), true);
        Check.due("is open", desk.session(3, 0), BrokerDesk.OPEN);
        Check.due("the others are not", desk.session(2, 0), BrokerDesk.SHUT);
        Check.due("open again", desk.open(3), false);
        Wire.feed(desk, 3, 2);
        Check.due("is closing", desk.session(3, 0), BrokerDesk.CLOSING);
        Check.due("open a closing one", desk.open(3), false);
        Check.due("still closing", desk.session(3, 0), BrokerDesk.CLOSING);
    }

    private static void shutting() {
        BrokerDesk desk = Wire.opened(2);
        Wire.tell(desk, 0, 1, 0, 0, 1, 2);
        Wire.tell(desk, 0, 1, 1, 0, 1, 2);
        Wire.tell(desk, 0, 1, 2, 3, 1, 2);
        for (int k = 1; k <= 4; k++) {
            Wire.tell(desk, 0, 3, 0, 0, k);
        }
        Wire.tell(desk, 0, 3, 3, 0, 99);
        Check.due("0 got 1 and 3", desk.subscription(0, 0, 3), 2);
        Check.due("1 got 2 and 4", desk.subscription(0, 1, 3), 2);
        Check.due("shut", desk.shut(0), true);
        Check.due("is shut", desk.session(0, 0), BrokerDesk.SHUT);
        Check.due("items came back", desk.place(0, 0), 4);
        Check.due("none is lost", desk.place(0, 2), 0);
        int[] order = {2, 4, 1, 3};
        for (int i = 0; i < 4; i++) {
            Check.due("subscription 0 ended first, item " + i, desk.item(0, i, 0), order[i]);
        }
        Check.due("no tries more", desk.place(0, 4), 0);
        Check.due("a stream has nothing back", desk.place(3, 0), 0);
        Check.due("shut again", desk.shut(0), false);
        Wire.tell(desk, 1, 1, 3, 0, 1, 5);
        Check.due("another one gets them", desk.subscription(1, 3, 3), 4);
        desk.open(2);
        Wire.tell(desk, 2, 1, 0, 0, 0, 1);
        desk.shut(1);
        Check.due("shut gives at its end", desk.place(0, 0), 0);
        Wire.dueOutput("in their order", desk, 2, 129, 4, 1, 0, 0, 2, 129, 4, 1, 0, 1, 4,
            129, 4, 1, 0, 2, 1, 129, 4, 1, 0, 3, 3);
    }

    private static void counts() {
        BrokerDesk desk = Wire.opened(1);
        Wire.tell(desk, 0, 6, 2);
        Check.due("2 is begun", desk.session(0, 7), 2);
        Wire.tell(desk, 0, 6, 1);
        Check.due("both are begun", desk.session(0, 7), 3);
        Wire.tell(desk, 0, 4, 0, 1);
        Wire.tell(desk, 0, 3, 0, 2, 5, 5);
        Check.due("kept", desk.session(0, 6), 2);
        Check.due("commands", desk.session(0, 4), 4);
        Wire.tell(desk, 0, 8, 2);
        Check.due("1 alone is begun", desk.session(0, 7), 1);
        Check.due("one is kept", desk.session(0, 6), 1);
        Wire.tell(desk, 0, 7, 1);
        Check.due("none is begun", desk.session(0, 7), 0);
        Check.due("none is kept", desk.session(0, 6), 0);
        Check.due("7 counts as one", desk.session(0, 4), 6);
        Wire.tell(desk, 0, 9, 200);
        Check.due("bytes in the output", desk.session(0, 1), 4);
        Wire.tell(desk, 0, 1, 0, 3, 0, 1);
        Wire.tell(desk, 0, 3, 3, 0, 1);
        Wire.tell(desk, 0, 3, 3, 0, 1);
        Check.due("next tag", desk.session(0, 5), 2);
        Wire.feed(desk, 0, 1, 128 + 5, 0, 0, 0, 0, 1, 2, 3);
        Check.due("data of a part", desk.session(0, 2), 3);
        Check.due("no fault", desk.session(0, 3), 0);
        Wire.feed(desk, 0, 4, 5, 2);
        Check.due("fault", desk.session(0, 3), 2);
        Check.due("data of none", desk.session(0, 2), 0);
    }

    private static void opensWithNothing() {
        BrokerDesk desk = Wire.opened(1);
        Wire.tell(desk, 0, 1, 2, 3, 1, 3);
        Wire.tell(desk, 0, 3, 3, 0, 1);
        Wire.tell(desk, 0, 6, 1);
        Wire.tell(desk, 0, 4, 0, 1);
        Wire.feed(desk, 0, 1, 128 + 5, 0, 0, 0, 0, 1, 2, 3);
        desk.shut(0);
        for (int round = 0; round < 2; round++) {
            for (int what = 1; what < 8; what++) {
                Check.due("round " + round + ": session 0 " + what, desk.session(0, what), 0);
            }
            Check.due("no output", desk.output(0, 0), -1);
            Check.due("nothing to take", desk.take(0, 1), -1);
            Check.due("no past", desk.past(0, 0), -1);
            Check.due("nothing to pack", desk.shortest(0, 1), -1);
            Check.due("no subscription", desk.subscription(0, 2, 0), -1);
            Check.due("state", desk.session(0, 0), round);
            desk.open(0);
        }
        Wire.tell(desk, 0, 9, 1);
        Wire.dueOutput("a new frame and a new message", desk, 0, 129, 2, 9, 1);
        Wire.feed(desk, 0, 129, 130, 1);
        desk.shut(0);
        desk.open(0);
        Wire.tell(desk, 0, 9, 2);
        Wire.dueOutput("also behind half a head", desk, 0, 129, 2, 9, 2);
    }

    private static void closing() {
        BrokerDesk desk = Wire.opened(2);
        Wire.tell(desk, 0, 1, 2, 0, 2, 3);
        Wire.tell(desk, 1, 3, 0, 0, 71);
        Wire.tell(desk, 0, 6, 1);
        Wire.tell(desk, 0, 4, 0, 1);
        Wire.feed(desk, 0, Wire.frame(1, 5, 6, 7));
        Check.due("data of a part", desk.session(0, 2), 3);
        Wire.drain(desk, 0);
        Wire.feed(desk, 0, Wire.frame(128 + 8, 3, 4));
        int[] due = {BrokerDesk.CLOSING, 4, 0, 0, 3, 1, 0, 0};
        for (int what = 0; what < 8; what++) {
            Check.due("closing: session 0 " + what, desk.session(0, what), due[what]);
        }
        Wire.dueOutput("the answer stays", desk, 0, 136, 2, 3, 4);
        Wire.duePast("the past stays", desk, 0, 4, 0, 1);
        Check.due("the subscription ended", desk.subscription(0, 2, 0), -1);
        Check.due("the item came back", desk.item(0, 0, 0), 71);
        Check.due("no feed", desk.feed(0, 0, 1), -1);
        Check.due("its output is taken", desk.take(0, 3), 136 + 256 * 2 + 65536 * 3);
        Check.due("shut of a closing one", desk.shut(0), true);
        Check.due("the item is there once", desk.place(0, 0), 1);
        Check.due("is shut", desk.session(0, 0), BrokerDesk.SHUT);
        Check.due("opens again", desk.open(0), true);
        Wire.feed(desk, 0, 2);
        Check.due("fault", desk.session(0, 3), 2);
        desk.shut(0);
        Check.due("shut: no fault", desk.session(0, 3), 0);
        desk.open(0);
        Check.due("opened: no fault", desk.session(0, 3), 0);
    }
}
