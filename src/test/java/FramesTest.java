/** Promises 4 and 14: feed, frames, their faults, and when these are found. */
public final class FramesTest {
    public static void main(String[] args) {
        wrongArguments();
        masks();
        firstBytes();
        secondBytes();
        longLengths();
        tooLong();
        parts();
        controls();
        noRoom();
        Check.end();
    }

    private static void wrongArguments() {
        BrokerDesk desk = Wire.opened(1);
        for (int wrong : new int[] {-1, 0, 9, 257, Integer.MIN_VALUE, Integer.MAX_VALUE}) {
            Check.due("feed n " + wrong, desk.feed(0, 2, wrong), -1);
        }
        for (int wrong : new int[] {-1, 4, Integer.MIN_VALUE, Integer.MAX_VALUE}) {
            Check.due("feed session " + wrong, desk.feed(wrong, 2, 1), -1);
        }
        Check.due("feed a shut one", desk.feed(1, 2, 1), -1);
        Check.due("nothing was looked at", desk.session(0, 0), BrokerDesk.OPEN);
        Check.due("eight at once", desk.feed(0, 0x1513_1211_8281L, 8), 8);
        Check.due("the command is wrong", desk.session(0, 0), BrokerDesk.CLOSING);
        Check.due("its fault", desk.session(0, 3), 8);
        Check.due("feed a closing one", desk.feed(0, 2, 1), -1);
    }

    private static void masks() {
        BrokerDesk desk = Wire.opened(1);
        int[] data = Wire.count(9, 200);
        Wire.feed(desk, 0, Wire.frame(128 + 9, data));
        Wire.dueOutput("data without the mask", desk, 0,
            Wire.join(Wire.bytes(138, 9), data));
        Wire.drain(desk, 0);
        Check.due("bytes above the n-th are nothing", desk.feed(0, -1L << 8 | 129, 1), 1);
        Check.due("so it is open", desk.session(0, 0), BrokerDesk.OPEN);
        Wire.feed(desk, 0, 130, 255, 254, 253, 252, 9 ^ 255, 77 ^ 254);
        Wire.dueOutput("another mask", desk, 0, 129, 2, 9, 77);
        // The highest byte of the long comes last, and has its sign bit.
        desk.take(0, 4);
        Check.due("eight bytes", desk.feed(0, 0xF6_09_00_00_FF_00_82_81L, 8), 8);
        Wire.dueOutput("a byte with its highest bit", desk, 0, 129, 2, 9, 9);
    }

    /** Each first byte with no part before it, and with one. */
    private static void firstBytes() {
        for (int b = 0; b < 256; b++) {
            int o = b & 15;
            boolean end = (b & 128) != 0;
            boolean packed = (b & 64) != 0;
            boolean extra = (b & 48) != 0;
            boolean control = o == 8 || o == 9 || o == 10;
            for (int before = 0; before < 2; before++) {
                boolean right = !extra && (control && end && !packed
                    || o == 1 && before == 0
                    || o == 0 && before == 1 && !packed);
                BrokerDesk desk = Wire.opened(1);
                if (before == 1) {
                    Wire.feed(desk, 0, Wire.frame(1));
                }
                String what = "first byte " + b + (before == 1 ? " behind a part" : "");
                Check.due(what, desk.feed(0, b | 0x8000, 2), right ? 2 : 1);
                Check.due(what + ": state", desk.session(0, 0), right ? BrokerDesk.OPEN : BrokerDesk.CLOSING);
                Check.due(what + ": fault", desk.session(0, 3), right ? 0 : 2);
                if (!right) {
                    Wire.dueOutput(what, desk, 0, 136, 1, 2);
                }
            }
        }
    }

    private static void secondBytes() {
        for (int b = 0; b < 256; b++) {
            for (int o : new int[] {1, 8, 9, 10}) {
                boolean right = b >= 128 && b != 255 && (o == 1 || b <= 128 + 16);
                BrokerDesk desk = Wire.opened(1);
                String what = "second byte " + b + " of " + o;
                Check.due(what, Wire.feed(desk, 0, 128 + o, b, 1), right ? 3 : 2);
                Check.due(what + ": fault", desk.session(0, 3), right ? 0 : 2);
            }
        }
    }

    private static void longLengths() {
        for (int n : new int[] {0, 1, 16, 125, 126, 127, 199, 200, 201, 255, 256, 256 + 126, 65535}) {
            int fault = n < 126 ? 2 : n > 200 ? 9 : 0;
            BrokerDesk desk = Wire.opened(1);
            Check.due("long length " + n, Wire.feed(desk, 0, 129, 254, n >> 8, n & 255, 0), fault == 0 ? 5 : 4);
            Check.due("long length " + n + ": fault", desk.session(0, 3), fault);
        }
        BrokerDesk desk = Wire.opened(1);
        int[] body = Wire.fill(126, 3);
        Check.due("126 bytes", Wire.tell(desk, 0, body), 8 + 126);
        Check.due("came to its end", desk.session(0, 3), 8);
        Check.due("and is past", desk.past(0, 63), 3);
    }

    private static void tooLong() {
        BrokerDesk desk = Wire.opened(4);
        int[] part = Wire.frame(1, Wire.fill(150, 1));
        for (int session = 0; session < 4; session++) {
            Check.due("a part", Wire.feed(desk, session, part), part.length);
        }
        Check.due("50 more", Wire.feed(desk, 0, 0, 128 + 50, 0), 3);
        Check.due("50 more: fault", desk.session(0, 3), 0);
        Check.due("51 more", Wire.feed(desk, 1, 0, 128 + 51, 0), 2);
        Check.due("51 more: fault", desk.session(1, 3), 9);
        Wire.dueOutput("51 more", desk, 1, 136, 1, 9);
        Check.due("51 more, told in two bytes", Wire.feed(desk, 2, 0, 254, 0, 51, 0), 4);
        Check.due("both faults: 2", desk.session(2, 3), 2);
        Check.due("51 more without a mask", Wire.feed(desk, 3, 0, 51, 0), 2);
        Check.due("both faults: 2 again", desk.session(3, 3), 2);
        desk = Wire.opened(1);
        Wire.feed(desk, 0, part);
        Wire.feed(desk, 0, Wire.frame(0, Wire.fill(50, 1)));
        Check.due("200 bytes came", desk.session(0, 2), 200);
        Check.due("a control has its own length", Wire.feed(desk, 0, Wire.frame(137, Wire.fill(16, 1))), 22);
        Check.due("an empty part", Wire.feed(desk, 0, Wire.frame(0)), 6);
        Check.due("no fault", desk.session(0, 3), 0);
        Check.due("one byte too many", Wire.feed(desk, 0, 128, 129), 2);
        Check.due("fault", desk.session(0, 3), 9);
        desk = Wire.opened(1);
        Wire.feed(desk, 0, part);
        Check.due("200 and more, judged with both bytes", Wire.feed(desk, 0, 0, 254, 255), 3);
        Check.due("so far no fault", desk.session(0, 3), 0);
        Wire.feed(desk, 0, 255);
        Check.due("then one", desk.session(0, 3), 9);
    }

    private static void parts() {
        BrokerDesk desk = Wire.opened(1);
        Check.due("an empty part", Wire.feed(desk, 0, Wire.frame(1)), 6);
        Check.due("no data", desk.session(0, 2), 0);
        Check.due("half a part", Wire.feed(desk, 0, 0, 129, 0, 0, 0, 0), 6);
        Check.due("still no data", desk.session(0, 2), 0);
        Wire.feed(desk, 0, 9);
        Check.due("a byte", desk.session(0, 2), 1);
        Check.due("asked between parts", Wire.feed(desk, 0, Wire.frame(137, 5, 6)), 8);
        Check.due("a control is no data", desk.session(0, 2), 1);
        Wire.dueOutput("and answered at once", desk, 0, 138, 2, 5, 6);
        Check.due("10 between parts", Wire.feed(desk, 0, Wire.frame(138, 1, 2, 3)), 9);
        Check.due("past is whole messages", desk.past(0, 0), -1);
        Check.due("the last part", Wire.feed(desk, 0, Wire.frame(128, 44)), 7);
        Check.due("whole", desk.session(0, 2), 0);
        Check.due("one command", desk.session(0, 4), 1);
        Wire.dueOutput("answered", desk, 0, 138, 2, 5, 6, 129, 2, 9, 44);
        Check.due("then a new message", Wire.feed(desk, 0, 128), 1);
        Check.due("begins with 1", desk.session(0, 3), 2);
        desk = Wire.opened(1);
        Wire.feed(desk, 0, Wire.frame(1, 9));
        Check.due("empty end", Wire.feed(desk, 0, Wire.frame(0)), 6);
        Wire.feed(desk, 0, Wire.frame(0, 3));
        Check.due("is no end without f", desk.session(0, 4), 0);
        Check.due("done with the mask's last byte", Wire.feed(desk, 0, Wire.frame(128)), 6);
        Check.due("a command", desk.session(0, 4), 1);
        Check.due("an empty message", Wire.feed(desk, 0, Wire.join(Wire.frame(129), Wire.bytes(129))), 6);
        Check.due("is none", desk.session(0, 3), 8);
        Wire.dueOutput("fault 8", desk, 0, 129, 2, 9, 3, 136, 1, 8);
    }

    private static void controls() {
        BrokerDesk desk = Wire.opened(2);
        Check.due("ask", Wire.feed(desk, 0, Wire.frame(137)), 6);
        Check.due("ask with 16", Wire.feed(desk, 0, Wire.frame(137, Wire.count(16, 1))), 22);
        Check.due("answer", Wire.feed(desk, 0, Wire.frame(138, Wire.count(16, 1))), 22);
        int[] asked = Wire.join(Wire.bytes(138, 0, 138, 16), Wire.count(16, 1));
        Wire.dueOutput("answers", desk, 0, asked);
        Check.due("controls are no commands", desk.session(0, 4), 0);
        Check.due("nor past", desk.past(0, 0), -1);
        Check.due("close, and more", Wire.feed(desk, 0, Wire.join(Wire.frame(136, 3), Wire.bytes(129, 130))), 7);
        Check.due("closing", desk.session(0, 0), BrokerDesk.CLOSING);
        Check.due("no fault", desk.session(0, 3), 0);
        Wire.dueOutput("closed", desk, 0, Wire.join(asked, Wire.bytes(136, 1, 3)));
        Check.due("close without data", Wire.feed(desk, 1, Wire.frame(136)), 6);
        Wire.dueOutput("closed without data", desk, 1, 136, 0);
    }

    private static void noRoom() {
        for (int left = 0; left < 5; left++) {
            BrokerDesk desk = Wire.opened(4);
            for (int session = 0; session < 4; session++) {
                Wire.fillOutput(desk, session, left);
                Check.due("filled", desk.session(session, 1), 240 - left);
            }
            Wire.feed(desk, 0, Wire.frame(136, 1));
            Check.due("closed with room " + left, desk.session(0, 1), left < 3 ? 240 - left : 243 - left);
            Check.due("closed all the same", desk.session(0, 0), BrokerDesk.CLOSING);
            Wire.feed(desk, 1, 2);
            Check.due("fault with room " + left, desk.session(1, 1), left < 3 ? 240 - left : 243 - left);
            Check.due("fault all the same", desk.session(1, 3), 2);
            Check.due("ended all the same", desk.session(1, 0), BrokerDesk.CLOSING);
            Wire.feed(desk, 2, Wire.frame(137, 1));
            Check.due("asked with room " + left, desk.session(2, 1), left < 3 ? 240 - left : 243 - left);
            Check.due("open all the same", desk.session(2, 0), BrokerDesk.OPEN);
            Wire.tell(desk, 3, 9, 1);
            Check.due("9 with room " + left, desk.session(3, 1), left < 4 ? 240 - left : 240);
            Check.due("9 is done all the same", desk.session(3, 4), 1);
        }
    }
}
