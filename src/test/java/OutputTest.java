/** Promises 5 and 6: take and output. */
public final class OutputTest {
    public static void main(String[] args) {
        BrokerDesk desk = Wire.opened(2);
        for (int wrong : new int[] {-1, 4, Integer.MIN_VALUE, Integer.MAX_VALUE}) {
            Check.due("take of " + wrong, desk.take(wrong, 1), -1);
            Check.due("output of " + wrong, desk.output(wrong, 0), -1);
        }
        Check.due("nothing yet", desk.take(0, 1), -1);
        Wire.feed(desk, 0, Wire.frame(137, 255, 254, 253, 252, 251, 250));
        for (int wrong : new int[] {-1, 0, 8, Integer.MIN_VALUE, Integer.MAX_VALUE}) {
            Check.due("take n " + wrong, desk.take(0, wrong), -1);
        }
        for (int wrong : new int[] {-1, 8, Integer.MIN_VALUE, Integer.MAX_VALUE}) {
            Check.due("output k " + wrong, desk.output(0, wrong), -1);
        }
        Wire.dueOutput("nothing changed", desk, 0, 138, 6, 255, 254, 253, 252, 251, 250);
        Check.due("the other one has none", desk.output(1, 0), -1);
        Check.due("one byte", desk.take(0, 1), 138);
        Wire.dueOutput("it left", desk, 0, 6, 255, 254, 253, 252, 251, 250);
        Wire.feed(desk, 0, Wire.frame(137));
        Check.due("seven bytes", desk.take(0, 7), 0xFA_FB_FC_FD_FE_FF_06L);
        Wire.dueOutput("what came behind", desk, 0, 138, 0);
        Check.due("more than there are", desk.take(0, 3), -1);
        Wire.dueOutput("nothing changed again", desk, 0, 138, 0);
        Check.due("all", desk.take(0, 2), 138);
        Check.due("none is left", desk.output(0, 0), -1);
        wholeRow();
        givesAgain();
        Check.end();
    }

    private static void wholeRow() {
        for (int session = 0; session < 4; session++) {
            BrokerDesk desk = Wire.opened(4);
            for (int k = 0; k < 80; k++) {
                Wire.feed(desk, k % 4, Wire.frame(137, Wire.fill(10, 10 * (k % 4) + k / 4)));
            }
            Check.due("240 bytes", desk.session(session, 1), 240);
            Wire.feed(desk, session, Wire.frame(137));
            Check.due("no more", desk.session(session, 1), 240);
            for (int k = 0; k < 240; k++) {
                int due = k % 12 == 0 ? 138 : k % 12 == 1 ? 10 : 10 * session + k / 12;
                Check.due("byte " + k, desk.output(session, k), due);
            }
            Check.due("none behind", desk.output(session, 240), -1);
        }
    }

    private static void givesAgain() {
        BrokerDesk desk = Wire.opened(2);
        Wire.tell(desk, 0, 1, 0, 0, 0, 1);
        Wire.fillOutput(desk, 0, 7);
        Wire.tell(desk, 1, 3, 0, 0, 1, 2, 3);
        Wire.tell(desk, 1, 3, 0, 0, 4);
        Check.due("the first one needs more room", desk.place(0, 0), 2);
        Check.due("refused", desk.take(0, 8), -1);
        Check.due("refused: nothing is given", desk.place(0, 0), 2);
        desk.take(0, 1);
        Check.due("take gives at its end", desk.place(0, 0), 1);
        Check.due("the row is full", desk.session(0, 1), 240);
        desk.take(0, 5);
        Check.due("not yet", desk.place(0, 0), 1);
        desk.take(0, 1);
        Check.due("now", desk.place(0, 0), 0);
        Check.due("its body", desk.output(0, 239), 4);
    }
}
