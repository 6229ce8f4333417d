import java.util.Arrays;
import java.util.Random;

/** Promises 7, 13 and 14: what is unpacked, the past, and how short it can be packed. */
public final class PastTest {
    public static void main(String[] args) {
        wrongArguments();
        pastGrows();
        unpacks();
        reachesFar();
        faults();
        tooMuch();
        whatBecomesPast();
        shortestByHand();
        shortestBySearch();
        Check.end();
    }

    private static void wrongArguments() {
        BrokerDesk desk = Wire.opened(1);
        Wire.tell(desk, 0, 9, 8);
        for (int wrong : new int[] {-1, 4, Integer.MIN_VALUE, Integer.MAX_VALUE}) {
            Check.due("past of " + wrong, desk.past(wrong, 0), -1);
            Check.due("shortest of " + wrong, desk.shortest(wrong, 1), -1);
        }
        for (int wrong : new int[] {-1, 2, 64, Integer.MIN_VALUE, Integer.MAX_VALUE}) {
            Check.due("past k " + wrong, desk.past(0, wrong), -1);
        }
        for (int wrong : new int[] {-1, 0, 3, 65, Integer.MIN_VALUE, Integer.MAX_VALUE}) {
            Check.due("shortest n " + wrong, desk.shortest(0, wrong), -1);
        }
        Check.due("the latest one", desk.past(0, 0), 8);
        Check.due("the one before", desk.past(0, 1), 9);
        Check.due("another session", desk.past(1, 0), -1);
    }

    private static void pastGrows() {
        BrokerDesk desk = Wire.opened(2);
        for (int k = 0; k < 32; k++) {
            Check.due("none yet", desk.past(0, 2 * k), -1);
            Wire.tell(desk, 0, 9, k);
        }
        Check.due("64 bytes", desk.past(0, 63), 9);
        Check.due("the next oldest", desk.past(0, 62), 0);
        Wire.tell(desk, 0, 3, 3, 0, 77);
        Check.due("no more than 64", desk.past(0, 64), -1);
        Wire.duePast("the latest", desk, 0, 9, 31, 3, 3, 0, 77);
        Check.due("the oldest ones left", desk.past(0, 63), 9);
        Check.due("moved by four", desk.past(0, 62), 2);
        Check.due("the other session has none", desk.past(1, 0), -1);
        Wire.tell(desk, 1, Wire.count(200, 100));
        for (int k = 0; k < 64; k++) {
            Check.due("of a long one its end", desk.past(1, k), (100 + 199 - k) & 255);
        }
        Check.due("and that alone", desk.past(1, 64), -1);
    }

    private static void unpacks() {
        BrokerDesk desk = Wire.opened(1);
        Wire.tellPacked(desk, 0, 1, 9, 5);
        Wire.dueOutput("two as they are", desk, 0, 129, 2, 9, 5);
        Wire.tellPacked(desk, 0, 128, 1);
        Wire.dueOutput("two of the past", desk, 0, 129, 2, 9, 5, 129, 2, 9, 5);
        Wire.drain(desk, 0);
        Wire.tellPacked(desk, 0, 0, 9, 0, 6);
        Wire.dueOutput("one and one", desk, 0, 129, 2, 9, 6);
        // 3 3 0 and one byte fifteen times more: the copy grows over itself.
        Wire.tellPacked(desk, 0, 3, 3, 0, 0, 33, 141, 0);
        Check.due("16 times the same", desk.place(0, 0), 1);
        Check.due("its last byte", desk.item(0, 0, 15), 33);
        Check.due("no more than 16", desk.item(0, 0, 16), -1);
        Wire.tellPacked(desk, 0, 4, 3, 0, 0, 1, 2, 128, 1, 128, 1, 128, 3);
        int[] body = {1, 2, 1, 2, 1, 2, 1, 2};
        for (int k = 0; k < body.length; k++) {
            Check.due("by two", desk.item(0, 1, k), body[k]);
        }
        Check.due("by two, no more", desk.item(0, 1, 8), -1);
        Check.due("parts are put together first", Wire.feed(desk, 0, Wire.frame(64 + 1, 2)), 7);
        Check.due("parts", Wire.feed(desk, 0, Wire.frame(0, 3, 1)), 8);
        Check.due("data that came, not what they become", desk.session(0, 2), 3);
        Check.due("parts", Wire.feed(desk, 0, Wire.frame(0, 0, 131)), 8);
        Check.due("parts", Wire.feed(desk, 0, Wire.frame(128, 0)), 7);
        Check.due("done", desk.place(1, 0), 1);
        Check.due("five zeros, one being x", desk.item(1, 0, 4), 0);
        Check.due("p holds for the one message", Wire.tell(desk, 0, 9, 100), 8);
        Check.due("no fault", desk.session(0, 3), 0);
    }

    private static void reachesFar() {
        BrokerDesk desk = Wire.opened(3);
        Wire.tell(desk, 0, 9, 1);
        Check.due("just there", Wire.tellPacked(desk, 0, 128, 1), 8);
        Check.due("no fault", desk.session(0, 3), 0);
        Check.due("too far", Wire.tellPacked(desk, 0, 128, 4), 8);
        Check.due("fault", desk.session(0, 3), 7);
        // The past has 64 bytes; with what is unpacked already 256 back can be reached.
        for (int session = 1; session < 3; session++) {
            for (int k = 0; k < 40; k++) {
                Wire.tell(desk, session, 9, k);
            }
        }
        int[] zeros = Wire.bytes(0, 8, 159, 0, 159, 0, 159, 0, 159, 0, 159, 0);
        int[] far = Wire.join(zeros, Wire.bytes(152, 0, 128, 255));
        Wire.drain(desk, 1);
        Wire.tellPacked(desk, 1, far);
        Check.due("192 unpacked, 256 back", desk.session(1, 3), 8);
        Wire.duePast("the oldest of the past", desk, 1, 8, 8, 9, 8);
        int[] farther = Wire.join(zeros, Wire.bytes(151, 0, 128, 255));
        Wire.drain(desk, 2);
        Wire.tellPacked(desk, 2, farther);
        Check.due("191 unpacked, 256 back", desk.session(2, 3), 7);
    }

    private static void faults() {
        for (int b = 160; b < 256; b++) {
            dueFault("b " + b, 7, b, 0, 0);
            dueFault("b " + b + " behind others", 7, 0, 9, b, 0);
        }
        dueFault("a byte is missing", 7, 1, 9);
        dueFault("all bytes are missing", 7, 0);
        dueFault("d is missing", 7, 0, 9, 128);
        dueFault("nothing before", 7, 128, 0);
        dueFault("too far before", 7, 0, 9, 128, 1);
        dueFault("128 as they are", 8, Wire.join(Wire.bytes(127), Wire.fill(128, 9)));
        dueFault("127 of 128", 7, Wire.join(Wire.bytes(127), Wire.fill(127, 9)));
        dueFault("nothing at all", 8);
    }

    private static void tooMuch() {
        int[] six = {0, 1, 159, 0, 159, 0, 159, 0, 159, 0, 159, 0, 159, 0};
        dueFault("199 come out", 8, six);
        dueFault("200 come out", 8, Wire.join(six, Wire.bytes(0, 7)));
        dueFault("201 come out", 9, Wire.join(six, Wire.bytes(1, 7, 7)));
        dueFault("201 come out of a copy", 9, Wire.join(six, Wire.bytes(128, 0)));
        dueFault("201 before something is missing", 9, Wire.join(six, Wire.bytes(5, 7, 7)));
        dueFault("something is missing before 201", 7, Wire.join(six, Wire.bytes(5, 7)));
        dueFault("201 before a wrong byte", 9, Wire.join(six, Wire.bytes(1, 7, 7, 255)));
        dueFault("a wrong byte before 201", 7, Wire.join(six, Wire.bytes(255, 0, 1, 7, 7)));
        dueFault("no such byte before 201", 7, Wire.join(six, Wire.bytes(159, 200)));
        dueFault("200 and a copy without d", 7, Wire.join(six, Wire.bytes(0, 7, 128)));
    }

    private static void dueFault(String what, int fault, int... packed) {
        BrokerDesk desk = Wire.opened(1);
        int[] frame = Wire.frame(128 + 64 + 1, packed);
        Check.due(what + ": looked at", Wire.feed(desk, 0, frame), frame.length);
        Check.due(what + ": fault", desk.session(0, 3), fault);
        Check.due(what + ": closing", desk.session(0, 0), BrokerDesk.CLOSING);
        Check.due(what + ": no command", desk.session(0, 4), 0);
        Wire.dueOutput(what, desk, 0, 136, 1, fault);
        if (fault != 8) {
            Check.due(what + ": no past", desk.past(0, 0), -1);
        }
    }

    private static void whatBecomesPast() {
        BrokerDesk desk = Wire.opened(3);
        for (int session = 0; session < 3; session++) {
            Wire.tell(desk, session, 9, 1);
        }
        Wire.tellPacked(desk, 0, 1, 5, 6, 255);
        Check.due("fault 7", desk.session(0, 3), 7);
        Wire.duePast("fault 7", desk, 0, 9, 1);
        Check.due("fault 7: no more", desk.past(0, 2), -1);
        Wire.tellPacked(desk, 1, 0, 1, 159, 0, 159, 0, 159, 0, 159, 0, 159, 0, 159, 0, 159, 0);
        Check.due("fault 9", desk.session(1, 3), 9);
        Wire.duePast("fault 9", desk, 1, 9, 1);
        Check.due("fault 9: no more", desk.past(1, 2), -1);
        Wire.tellPacked(desk, 2, 2, 5, 6, 7);
        Check.due("fault 8", desk.session(2, 3), 8);
        Wire.duePast("fault 8", desk, 2, 9, 1, 5, 6, 7);
    }

    private static void shortestByHand() {
        BrokerDesk desk = Wire.opened(4);
        Wire.tell(desk, 0, Wire.join(Wire.bytes(0), Wire.fill(40, 5)));
        Check.due("one byte, as before", desk.shortest(0, 1), 2);
        Check.due("two bytes, as before", desk.shortest(0, 2), 2);
        Check.due("33 bytes", desk.shortest(0, 33), 2);
        Check.due("34 bytes", desk.shortest(0, 34), 4);
        Check.due("39 bytes", desk.shortest(0, 39), 4);
        Check.due("40 bytes, the first one new", desk.shortest(0, 40), 6);
        Check.due("41 bytes, the first two new", desk.shortest(0, 41), 7);
        Check.due("more than there are", desk.shortest(0, 42), -1);
        Wire.tell(desk, 1, Wire.count(64, 0));
        Check.due("nothing twice", desk.shortest(1, 64), 65);
        Check.due("nothing twice of ten", desk.shortest(1, 10), 11);
        // The first copy could be longer, but then the rest would cost more.
        Wire.tell(desk, 2, 1, 2, 3, 4, 3, 4, 5, 6, 1, 2, 3, 4, 5, 6);
        Check.due("two copies", desk.shortest(2, 6), 4);
        // A copy of two bytes between new ones saves nothing.
        Wire.tell(desk, 3, 1, 2, 50, 1, 2, 51);
        Check.due("a copy between", desk.shortest(3, 4), 5);
    }

    /** Every row of bytes that is short enough is unpacked by hand, until one gives what is due. */
    private static void shortestBySearch() {
        Random random = new Random(13);
        for (int round = 0; round < 300; round++) {
            int length = 1 + random.nextInt(80);
            int letters = 1 + random.nextInt(4);
            int[] message = new int[length];
            for (int k = 0; k < length; k++) {
                message[k] = k > 4 && random.nextInt(3) == 0 ? message[k - 1 - random.nextInt(4)]
                    : 20 + random.nextInt(letters);
            }
            BrokerDesk desk = Wire.opened(1);
            Wire.tell(desk, 0, message);
            int[] past = length > 64 ? Arrays.copyOfRange(message, length - 64, length) : message;
            for (int n = 1; n <= past.length; n += 1 + random.nextInt(5)) {
                Check.due("shortest " + n + " of " + Arrays.toString(past),
                    desk.shortest(0, n), Model.least(past, n));
            }
        }
    }
}
