import java.util.function.ToLongFunction;

/**
 * Promises 2 to 13: every call that is refused answers so, on the last argument that is right and the first
 * one that is not, and changes nothing; nor does a call that only looks.
 */
public final class RefusedCallsTest {
    private static final int[] NO_SESSIONS = {-1, 4, 5, 255, Integer.MIN_VALUE, Integer.MAX_VALUE};
    private static final int LEAST = Integer.MIN_VALUE;
    private static final int MOST = Integer.MAX_VALUE;

    public static void main(String[] args) {
        open();
        shut();
        feed();
        take();
        output();
        past();
        session();
        subscription();
        place();
        item();
        ready();
        shortest();
        Check.end();
    }

    /**
     * Session 0 is OPEN, within a frame, with something of everything; 1 is CLOSING with three bytes to be
     * taken; 2 is SHUT; 3 is OPEN, and has no room for what waits for it.
     */
    private static void before(BrokerDesk desk) {
        desk.open(0);
        desk.open(1);
        desk.open(3);
        Wire.tell(desk, 0, 1, 1, 0, 2, 2);
        Wire.tell(desk, 0, 6, 2);
        Wire.tell(desk, 0, 3, 0, 2, 21);
        for (int k = 0; k < 4; k++) {
            Wire.tell(desk, 0, 3, 0, 0, 30 + k, 40 + k);
        }
        Wire.tell(desk, 3, 1, 3, 1, 0, 1);
        Wire.fillOutput(desk, 3, 0);
        Wire.tell(desk, 0, 3, 1, 0, 50);
        Wire.feed(desk, 1, 2);
        Wire.feed(desk, 0, 1, 128 + 4, 1, 2, 3, 4, 3 ^ 1, 0 ^ 2);
    }

    private static void later(BrokerDesk desk) {
        Wire.feed(desk, 0, 0 ^ 3, 61 ^ 4);
        Wire.feed(desk, 0, Wire.frame(128, 62));
        Wire.tell(desk, 0, 5, 1, 0);
        Wire.tell(desk, 0, 7, 2);
        desk.take(3, 6);
        desk.shut(1);
        for (int session = 1; session < 3; session++) {
            desk.open(session);
            Wire.tell(desk, session, 9, 70 + session);
        }
    }

    private static void refused(String what, ToLongFunction<BrokerDesk> call) {
        answers(what, BrokerDesk.REFUSED, call);
    }

    private static void answers(String what, long due, ToLongFunction<BrokerDesk> call) {
        BrokerDesk desk = new BrokerDesk();
        before(desk);
        Check.due(what, call.applyAsLong(desk), due);
        State.dueUnchanged(what, RefusedCallsTest::before, one -> call.applyAsLong(one), RefusedCallsTest::later);
    }

    /** "false if there is none such" (a SESSION that is SHUT). */
    private static void open() {
        for (int none : NO_SESSIONS) {
            answers("open(" + none + ")", 0, desk -> desk.open(none) ? 1 : 0);
        }
        answers("open of an OPEN one", 0, desk -> desk.open(0) ? 1 : 0);
        answers("open of an OPEN one", 0, desk -> desk.open(3) ? 1 : 0);
        answers("open of a CLOSING one", 0, desk -> desk.open(1) ? 1 : 0);
    }

    /** "false if there is none, or it is SHUT." */
    private static void shut() {
        for (int none : NO_SESSIONS) {
            answers("shut(" + none + ")", 0, desk -> desk.shut(none) ? 1 : 0);
        }
        answers("shut of a SHUT one", 0, desk -> desk.shut(2) ? 1 : 0);
    }

    /** "REFUSED if there is no such SESSION, n is another one, or it is not OPEN." */
    private static void feed() {
        for (int none : NO_SESSIONS) {
            refused("feed(" + none + ", 2, 1)", desk -> desk.feed(none, 2, 1));
        }
        for (int n : new int[] {0, -1, 9, 16, 256 + 1, LEAST, MOST}) {
            refused("feed(0, -1, " + n + ")", desk -> desk.feed(0, -1L, n));
            refused("feed(0, 0, " + n + ")", desk -> desk.feed(0, 0L, n));
        }
        for (int n = 1; n <= 8; n++) {
            int count = n;
            refused("feed of a CLOSING one, " + n, desk -> desk.feed(1, 0x8281L, count));
            refused("feed of a SHUT one, " + n, desk -> desk.feed(2, 0x8281L, count));
        }
    }

    /** "REFUSED, and nothing changes, if there is no such SESSION, n is another one, or there are not as many." */
    private static void take() {
        for (int none : NO_SESSIONS) {
            refused("take(" + none + ", 1)", desk -> desk.take(none, 1));
        }
        for (int n : new int[] {0, -1, 8, 9, 256 + 1, LEAST, MOST}) {
            refused("take(0, " + n + ")", desk -> desk.take(0, n));
            refused("take(3, " + n + "), with 240 bytes", desk -> desk.take(3, n));
        }
        for (int n = 4; n <= 7; n++) {
            int count = n;
            refused("take(1, " + n + "), with 3 bytes", desk -> desk.take(1, count));
        }
        for (int n = 1; n <= 7; n++) {
            int count = n;
            refused("take(2, " + n + ") of a SHUT one", desk -> desk.take(2, count));
        }
        BrokerDesk desk = new BrokerDesk();
        before(desk);
        Check.due("take(1, 3), with 3 bytes", desk.take(1, 3), 136 + (1 << 8) + (2 << 16));
        Check.due("take(1, 1), with none", desk.take(1, 1), -1);
        Check.due("take(3, 7), with 240 bytes", desk.take(3, 7) >= 0, true);
    }

    /** "REFUSED if there is none" (a byte k). */
    private static void output() {
        for (int none : NO_SESSIONS) {
            refused("output(" + none + ", 0)", desk -> desk.output(none, 0));
        }
        for (int k : new int[] {-1, 3, 4, 240, LEAST, MOST}) {
            refused("output(1, " + k + "), with 3 bytes", desk -> desk.output(1, k));
        }
        for (int k : new int[] {-1, 240, 241, LEAST, MOST}) {
            refused("output(3, " + k + "), with 240 bytes", desk -> desk.output(3, k));
        }
        refused("output(2, 0) of a SHUT one", desk -> desk.output(2, 0));
        answers("the first byte", 136, desk -> desk.output(1, 0));
        answers("the last byte", 2, desk -> desk.output(1, 2));
        answers("the last one of 240", 7, desk -> desk.output(3, 239));
    }

    /** "REFUSED if there is none" (a byte k). */
    private static void past() {
        for (int none : NO_SESSIONS) {
            refused("past(" + none + ", 0)", desk -> desk.past(none, 0));
        }
        for (int k : new int[] {-1, 5, 6, 63, 64, LEAST, MOST}) {
            refused("past(3, " + k + "), with 5 bytes", desk -> desk.past(3, k));
        }
        refused("past(1, 0), with none", desk -> desk.past(1, 0));
        refused("past(2, 0) of a SHUT one", desk -> desk.past(2, 0));
        answers("the latest byte", 1, desk -> desk.past(3, 0));
        answers("the oldest byte of 5", 1, desk -> desk.past(3, 4));
        answers("the one behind the oldest", 3, desk -> desk.past(3, 3));
    }

    /** "REFUSED if there is none, or for others." */
    private static void session() {
        for (int none : NO_SESSIONS) {
            for (int what = 0; what < 8; what++) {
                int which = what;
                refused("session(" + none + ", " + what + ")", desk -> desk.session(none, which));
            }
        }
        for (int what : new int[] {-1, 8, 9, LEAST, MOST}) {
            for (int session = 0; session < 4; session++) {
                int of = session;
                refused("session(" + session + ", " + what + ")", desk -> desk.session(of, what));
            }
        }
        int[] due = {BrokerDesk.OPEN, 14, 2, 0, 8, 2, 1, 2};
        for (int what = 0; what < 8; what++) {
            int which = what;
            answers("session(0, " + what + ")", due[what], desk -> desk.session(0, which));
        }
    }

    /** "REFUSED if it is not there, or for others." */
    private static void subscription() {
        for (int none : NO_SESSIONS) {
            refused("subscription(" + none + ", 1, 0)", desk -> desk.subscription(none, 1, 0));
        }
        for (int s : new int[] {-1, 0, 2, 3, 4, 5, LEAST, MOST}) {
            refused("subscription(0, " + s + ", 0)", desk -> desk.subscription(0, s, 0));
        }
        for (int what : new int[] {-1, 5, 6, LEAST, MOST}) {
            refused("subscription(0, 1, " + what + ")", desk -> desk.subscription(0, 1, what));
        }
        refused("subscription(1, 0, 0) of a CLOSING one", desk -> desk.subscription(1, 0, 0));
        refused("subscription(2, 0, 0) of a SHUT one", desk -> desk.subscription(2, 0, 0));
        int[] due = {0, 2, 2, 2, 0};
        int[] last = {1, 0, 1, 0, -1};
        for (int what = 0; what < 5; what++) {
            int which = what;
            answers("subscription(0, 1, " + what + ")", due[what], desk -> desk.subscription(0, 1, which));
            answers("subscription(3, 3, " + what + ")", last[what], desk -> desk.subscription(3, 3, which));
        }
    }

    /** "REFUSED if there is none, or for others." */
    private static void place() {
        for (int t : new int[] {-1, 6, 7, LEAST, MOST}) {
            refused("place(" + t + ", 0)", desk -> desk.place(t, 0));
        }
        for (int what : new int[] {-1, 5, 6, LEAST, MOST}) {
            refused("place(0, " + what + ")", desk -> desk.place(0, what));
            refused("place(5, " + what + ")", desk -> desk.place(5, what));
        }
        int[] due = {2, 2, 0, 1, 0};
        int[] last = {0, 0, 0, -1, 0};
        for (int what = 0; what < 5; what++) {
            int which = what;
            answers("place(0, " + what + ")", due[what], desk -> desk.place(0, which));
            answers("place(5, " + what + ")", last[what], desk -> desk.place(5, which));
        }
    }

    /** "Byte k of the BODY of ITEM i (0 the first) of a QUEUE; REFUSED if there is none." */
    private static void item() {
        for (int t : new int[] {-1, 2, 3, 4, 5, 6, LEAST, MOST}) {
            refused("item(" + t + ", 0, 0)", desk -> desk.item(t, 0, 0));
        }
        for (int i : new int[] {-1, 2, 3, 7, 8, LEAST, MOST}) {
            refused("item(0, " + i + ", 0), with 2 items", desk -> desk.item(0, i, 0));
        }
        for (int k : new int[] {-1, 2, 15, 16, LEAST, MOST}) {
            refused("item(0, 0, " + k + "), with 2 bytes", desk -> desk.item(0, 0, k));
        }
        answers("the first byte of the first item", 32, desk -> desk.item(0, 0, 0));
        answers("the last byte of the last item", 43, desk -> desk.item(0, 1, 1));
    }

    /** "REFUSED if there is no such PLACE, or n is not 1..16." */
    private static void ready() {
        for (int t : new int[] {-1, 6, 7, LEAST, MOST}) {
            refused("ready(" + t + ", 1)", desk -> desk.ready(t, 1));
        }
        for (int t = 0; t < 6; t++) {
            int of = t;
            for (int n : new int[] {0, -1, 17, 18, LEAST, MOST}) {
                refused("ready(" + t + ", " + n + ")", desk -> desk.ready(of, n));
            }
            answers("ready(" + t + ", 1)", 0, desk -> desk.ready(of, 1));
            answers("ready(" + t + ", 16)", 0, desk -> desk.ready(of, 16));
        }
    }

    /** "REFUSED if there is no such SESSION, n is not above 0, or there are not as many." */
    private static void shortest() {
        for (int none : NO_SESSIONS) {
            refused("shortest(" + none + ", 1)", desk -> desk.shortest(none, 1));
        }
        for (int n : new int[] {0, -1, 6, 7, 64, 65, LEAST, MOST}) {
            refused("shortest(3, " + n + "), with 5 bytes", desk -> desk.shortest(3, n));
        }
        refused("shortest(1, 1), with none", desk -> desk.shortest(1, 1));
        refused("shortest(2, 1) of a SHUT one", desk -> desk.shortest(2, 1));
        answers("the least n", 2, desk -> desk.shortest(3, 1));
        answers("the greatest n", 6, desk -> desk.shortest(3, 5));
    }
}
