/** The sentences on BYTES, INPUT, FRAMES and their FAULTS that name a bound: each on both of its sides. */
public final class FrameEdgesTest {
    private static final int PARTS_BEFORE = 1;

    public static void main(String[] args) {
        bytesTo255();
        oneToEightBytes();
        noneOfThese();
        zeroNeedsAPart();
        oneNeedsNone();
        packedWithAnother();
        bits32And16();
        controlWithoutF();
        asSoonAsAByteIsThere();
        maskIsThere();
        length127();
        controlsUpTo16();
        lengthsUpTo125();
        lengthOfTwoBytes();
        twoBytesBelow126();
        judgedWithAllItsBytes();
        partsUpTo200();
        twoBeforeNine();
        maskGoesRound();
        doneWithItsLastByte();
        controlsBetweenParts();
        askedAndClosed();
        closedInTheMiddle();
        newFrameNewMessage();
        Check.end();
    }

    /** Opens a session, with a part before (if asked for), and feeds: is there the fault, with the last byte? */
    private static void due(int fault, int partsBefore, int... row) {
        BrokerDesk desk = Wire.opened(1);
        if (partsBefore > 0) {
            Wire.feed(desk, 0, Wire.frame(1, 5));
        }
        String what = java.util.Arrays.toString(row) + (partsBefore > 0 ? " behind a part" : "");
        for (int k = 0; k < row.length; k++) {
            Check.due(what + ": byte " + k + " is looked at", desk.feed(0, row[k], 1), 1);
            boolean last = k == row.length - 1;
            Check.due(what + ": fault with byte " + k, desk.session(0, 3), last ? fault : 0);
        }
        Check.due(what + ": state", desk.session(0, 0), fault == 0 ? BrokerDesk.OPEN : BrokerDesk.CLOSING);
        if (fault == 0) {
            Wire.dueOutput(what, desk, 0);
        } else {
            Wire.dueOutput(what, desk, 0, 136, 1, fault);
        }
    }

    /** "BYTES are 0..255." */
    private static void bytesTo255() {
        for (int b : new int[] {0, 1, 127, 128, 254, 255}) {
            for (int mask : new int[] {0, 127, 128, 255}) {
                BrokerDesk desk = Wire.opened(1);
                Wire.feed(desk, 0, 129, 128 + 4, mask, mask, mask, mask, 3 ^ mask, mask, mask, b ^ mask);
                Check.due("item " + b, desk.item(0, 0, 0), b);
                Check.due("past " + b, desk.past(0, 0), b);
                Wire.feed(desk, 0, 129, 130, mask, mask, mask, mask, 9 ^ mask, b ^ mask);
                Check.due("output " + b, desk.output(0, 3), b);
                Check.due("take " + b, desk.take(0, 4), 129L + (2L << 8) + (9L << 16) + ((long) b << 24));
            }
        }
        BrokerDesk desk = Wire.opened(1);
        Wire.feed(desk, 0, Wire.frame(137, Wire.fill(12, 255)));
        Check.due("seven bytes of 255", desk.take(0, 2) == 138 + 12 * 256 ? desk.take(0, 7) : -2, 0xFF_FFFF_FFFF_FFFFL);
    }

    /** "n (1..8) bytes, the lowest one of the long first" */
    private static void oneToEightBytes() {
        int[] row = Wire.join(Wire.frame(1, 3, 2), Wire.frame(137, 200, 201), Wire.frame(128, 0, 1, 128, 255));
        for (int n = 1; n <= 8; n++) {
            BrokerDesk desk = Wire.opened(1);
            int at = 0;
            while (at < row.length) {
                int count = Math.min(n, row.length - at);
                // What stands above the n-th byte of the long would be wrong at any place.
                long bytes = count == 8 ? 0 : -1L << (8 * count);
                for (int k = 0; k < count; k++) {
                    bytes |= (long) row[at + k] << (8 * k);
                }
                Check.due(count + " bytes at " + at, desk.feed(0, bytes, count), count);
                at += count;
            }
            Wire.dueOutput("by " + n, desk, 0, 138, 2, 200, 201);
            Wire.duePast("by " + n, desk, 0, 3, 2, 0, 1, 128, 255);
            Check.due("by " + n + ": the last byte", desk.item(2, 0, 2), 255);
            Check.due("by " + n + ": and no more", desk.item(2, 0, 3), -1);
        }
    }

    /** "2 if o is none of these" */
    private static void noneOfThese() {
        for (int o : new int[] {2, 3, 4, 5, 6, 7, 11, 12, 13, 14, 15}) {
            for (int parts = 0; parts <= PARTS_BEFORE; parts++) {
                due(2, parts, o);
                due(2, parts, 128 + o);
            }
        }
        for (int o : new int[] {8, 9, 10}) {
            due(0, 0, 128 + o);
            due(0, PARTS_BEFORE, 128 + o);
        }
        due(0, 0, 1);
        due(0, PARTS_BEFORE, 0);
    }

    /** "or 0 without a part before it" */
    private static void zeroNeedsAPart() {
        due(2, 0, 0);
        due(2, 0, 128);
        due(0, PARTS_BEFORE, 0);
        due(0, PARTS_BEFORE, 128);
        BrokerDesk desk = Wire.opened(3);
        Wire.feed(desk, 0, Wire.frame(1));
        Check.due("an empty part is one", Wire.feed(desk, 0, Wire.frame(128, 9, 1)), 8);
        Check.due("so the message is whole", desk.session(0, 4), 1);
        Wire.feed(desk, 0, 0);
        Check.due("the parts of another message are none", desk.session(0, 3), 2);
        Wire.tell(desk, 1, 9, 1);
        Wire.feed(desk, 1, 128);
        Check.due("nor is a whole message", desk.session(1, 3), 2);
        Wire.feed(desk, 2, Wire.frame(138));
        Wire.feed(desk, 2, 128);
        Check.due("nor is a CONTROL", desk.session(2, 3), 2);
    }

    /** "1 with one" (a part before it) */
    private static void oneNeedsNone() {
        due(0, 0, 1);
        due(0, 0, 129);
        due(2, PARTS_BEFORE, 1);
        due(2, PARTS_BEFORE, 129);
        BrokerDesk desk = Wire.opened(2);
        Wire.feed(desk, 0, Wire.frame(1));
        Wire.feed(desk, 0, 129);
        Check.due("an empty part is one", desk.session(0, 3), 2);
        Wire.feed(desk, 1, Wire.frame(1, 9));
        Wire.feed(desk, 1, Wire.frame(0, 1));
        Wire.feed(desk, 1, Wire.frame(128));
        Check.due("the message is whole", desk.session(1, 4), 1);
        Wire.feed(desk, 1, 1);
        Check.due("so that another one may begin", desk.session(1, 3), 0);
    }

    /** "p with another one than 1" */
    private static void packedWithAnother() {
        due(0, 0, 64 + 1);
        due(0, 0, 128 + 64 + 1);
        due(2, PARTS_BEFORE, 64);
        due(2, PARTS_BEFORE, 128 + 64);
        for (int o = 8; o <= 10; o++) {
            due(2, 0, 128 + 64 + o);
            due(2, PARTS_BEFORE, 128 + 64 + o);
        }
    }

    /** "bits 32 or 16 are there" */
    private static void bits32And16() {
        for (int bits = 16; bits <= 48; bits += 16) {
            due(2, 0, 1 + bits);
            due(2, 0, 129 + bits);
            due(2, 0, 128 + 64 + 1 + bits);
            due(2, PARTS_BEFORE, bits);
            due(2, PARTS_BEFORE, 128 + bits);
            for (int o = 8; o <= 10; o++) {
                due(2, 0, 128 + bits + o);
            }
        }
    }

    /** "or a CONTROL without f" */
    private static void controlWithoutF() {
        for (int o = 8; o <= 10; o++) {
            due(2, 0, o);
            due(2, PARTS_BEFORE, o);
            due(0, 0, 128 + o);
        }
    }

    /** "FAULTS, as soon as a byte is there", "how many were looked at (fewer if it ENDS)" */
    private static void asSoonAsAByteIsThere() {
        for (int n = 1; n <= 8; n++) {
            BrokerDesk desk = Wire.opened(1);
            Check.due("the first of " + n + " is wrong", desk.feed(0, -1L, n), 1);
            Wire.dueOutput("the first of " + n, desk, 0, 136, 1, 2);
        }
        for (int n = 7; n <= 8; n++) {
            BrokerDesk desk = Wire.opened(1);
            Check.due("the seventh of " + n + " is wrong", desk.feed(0, 0xFFFF_0000_0000_808AL, n), 7);
            Wire.dueOutput("the seventh of " + n, desk, 0, 136, 1, 2);
        }
        BrokerDesk desk = Wire.opened(1);
        Check.due("six are right", desk.feed(0, 0xFFFF_0000_0000_808AL, 6), 6);
        Check.due("the session goes on", desk.session(0, 0), BrokerDesk.OPEN);
    }

    /** "then, if m is not there" */
    private static void maskIsThere() {
        for (int n : new int[] {0, 1, 16, 17, 125, 126, 127}) {
            due(2, 0, 129, n);
            due(2, PARTS_BEFORE, 128, n);
            due(2, 0, 137, n);
        }
        due(0, 0, 129, 128);
        due(0, 0, 137, 128);
    }

    /** "or n is 127" */
    private static void length127() {
        due(2, 0, 129, 128 + 127);
        due(2, 0, 1, 128 + 127);
        due(2, PARTS_BEFORE, 0, 128 + 127);
        due(0, 0, 129, 128 + 126);
        due(0, 0, 129, 128 + 125);
    }

    /** "or above 16 for a CONTROL" */
    private static void controlsUpTo16() {
        for (int o = 8; o <= 10; o++) {
            for (int parts = 0; parts <= PARTS_BEFORE; parts++) {
                due(0, parts, 128 + o, 128 + 16);
                due(2, parts, 128 + o, 128 + 17);
                due(2, parts, 128 + o, 128 + 125);
                due(2, parts, 128 + o, 128 + 126);
                due(2, parts, 128 + o, 128 + 127);
            }
        }
        due(0, 0, 129, 128 + 17);
        due(0, PARTS_BEFORE, 128, 128 + 17);
    }

    /** "the length is n" */
    private static void lengthsUpTo125() {
        for (int n : new int[] {1, 2, 16, 17, 124, 125}) {
            BrokerDesk desk = Wire.opened(1);
            Wire.feed(desk, 0, Wire.join(Wire.bytes(129, 128 + n), Wire.fill(4 + n - 1, 0)));
            Check.due("one of " + n + " is missing", desk.session(0, 2), n - 1);
            Check.due("so it is not whole", desk.past(0, 0), -1);
            Wire.feed(desk, 0, 44);
            Check.due("the last of " + n, desk.past(0, 0), 44);
            Check.due("it is whole", desk.session(0, 2), 0);
        }
    }

    /** "but for 126 it is 256 times the next byte and the one behind that" */
    private static void lengthOfTwoBytes() {
        for (int n : new int[] {126, 127, 128, 199, 200}) {
            BrokerDesk desk = Wire.opened(1);
            Wire.feed(desk, 0, Wire.join(Wire.bytes(129, 128 + 126, 0, n), Wire.fill(4 + n - 1, 0)));
            Check.due("one of " + n + " is missing", desk.session(0, 2), n - 1);
            Wire.feed(desk, 0, 44);
            Check.due("the last of " + n, desk.past(0, 0), 44);
            Check.due("it is whole", desk.session(0, 2), 0);
        }
        // Were the first byte left out, or the two changed, these would be right lengths.
        due(9, 0, 129, 128 + 126, 1, 0);
        due(9, 0, 129, 128 + 126, 1, 150);
        due(9, 0, 129, 128 + 126, 150, 0);
        due(9, 0, 129, 128 + 126, 255, 255);
    }

    /** "a length of two bytes below 126" */
    private static void twoBytesBelow126() {
        due(2, 0, 129, 128 + 126, 0, 0);
        due(2, 0, 129, 128 + 126, 0, 1);
        due(2, 0, 129, 128 + 126, 0, 125);
        due(0, 0, 129, 128 + 126, 0, 126);
        due(2, PARTS_BEFORE, 128, 128 + 126, 0, 125);
        due(0, PARTS_BEFORE, 128, 128 + 126, 0, 126);
    }

    /** "a length is judged when all its bytes are there" */
    private static void judgedWithAllItsBytes() {
        due(0, 0, 129, 128 + 126);
        due(0, 0, 129, 128 + 126, 0);
        due(0, 0, 129, 128 + 126, 255);
        due(9, 0, 129, 128 + 126, 255, 0);
        BrokerDesk desk = Wire.opened(1);
        Wire.feed(desk, 0, Wire.frame(1, Wire.fill(125, 1)));
        Wire.feed(desk, 0, 0, 128 + 126);
        Check.due("126 more are too many, but are not told yet", desk.session(0, 3), 0);
        Wire.feed(desk, 0, 0);
        Check.due("nor with the first byte", desk.session(0, 3), 0);
        Wire.feed(desk, 0, 126);
        Check.due("with the second one they are", desk.session(0, 3), 9);
    }

    /** "9 if the length of a part and those of the parts before it together are above 200" */
    private static void partsUpTo200() {
        due(0, 0, 129, 128 + 126, 0, 200);
        due(9, 0, 129, 128 + 126, 0, 201);
        due(0, PARTS_BEFORE, 128, 128 + 126, 0, 199);
        due(9, PARTS_BEFORE, 128, 128 + 126, 0, 200);
        for (int more = 0; more <= 1; more++) {
            BrokerDesk desk = Wire.opened(1);
            Wire.feed(desk, 0, Wire.frame(1, Wire.fill(80, 1)));
            Wire.feed(desk, 0, Wire.frame(137, Wire.fill(16, 1)));
            Wire.feed(desk, 0, Wire.frame(0, Wire.fill(70, 1)));
            Wire.feed(desk, 0, Wire.frame(0));
            Wire.feed(desk, 0, 0, 128 + 50 + more);
            Check.due("80, 70 and " + (50 + more), desk.session(0, 3), more == 0 ? 0 : 9);
        }
        BrokerDesk desk = Wire.opened(1);
        for (int k = 0; k < 12; k++) {
            Wire.tell(desk, 0, Wire.join(Wire.bytes(3, 3, 0), Wire.fill(16, k)));
        }
        Check.due("those of the messages before are not among them", desk.session(0, 4), 12);
        Wire.feed(desk, 0, Wire.frame(1, Wire.fill(200, 1)));
        Check.due("200 came", desk.session(0, 2), 200);
        Check.due("an empty part is not too long", Wire.feed(desk, 0, Wire.frame(0)), 6);
        Wire.feed(desk, 0, 128, 129);
        Check.due("one byte is", desk.session(0, 3), 9);
    }

    /** "if both 2 and 9 were the FAULT then, it is 2" */
    private static void twoBeforeNine() {
        for (int n = 100; n <= 125; n += 25) {
            BrokerDesk desk = Wire.opened(2);
            for (int session = 0; session < 2; session++) {
                Wire.feed(desk, session, Wire.frame(1, Wire.fill(150, 1)));
            }
            Check.due("two bytes for " + n, Wire.feed(desk, 0, 0, 128 + 126, 0, n), 4);
            Check.due("two bytes for " + n + ": fault", desk.session(0, 3), 2);
            Wire.dueOutput("two bytes for " + n, desk, 0, 136, 1, 2);
            Check.due("no mask for " + n, Wire.feed(desk, 1, 0, n), 2);
            Check.due("no mask for " + n + ": fault", desk.session(1, 3), 2);
        }
    }

    /** "byte k is what came exclusive or byte k % 4 of the MASK" */
    private static void maskGoesRound() {
        int[] mask = {1, 2, 4, 128};
        for (int n = 1; n <= 16; n++) {
            BrokerDesk desk = Wire.opened(1);
            Wire.feed(desk, 0, Wire.join(Wire.bytes(137, 128 + n), mask, Wire.fill(n, 0)));
            for (int k = 0; k < n; k++) {
                Check.due("byte " + k + " of " + n, desk.output(0, 2 + k), mask[k % 4]);
            }
        }
        BrokerDesk desk = Wire.opened(1);
        Wire.feed(desk, 0, Wire.join(Wire.bytes(1, 128 + 2), mask, Wire.bytes(3 ^ 1, 0 ^ 2)));
        Wire.feed(desk, 0, Wire.join(Wire.bytes(0, 128 + 1, 16, 32, 64, 8, 16)));
        Wire.feed(desk, 0, Wire.join(Wire.bytes(128, 128 + 5, 32, 64, 8, 16), Wire.fill(5, 0)));
        int[] body = {32, 64, 8, 16, 32};
        for (int k = 0; k < body.length; k++) {
            Check.due("each part begins its own mask anew, byte " + k, desk.item(0, 0, k), body[k]);
        }
    }

    /** "With its last byte (that of the MASK, if there are no data) a FRAME is done." */
    private static void doneWithItsLastByte() {
        for (int n = 0; n <= 16; n++) {
            BrokerDesk desk = Wire.opened(1);
            int[] frame = Wire.frame(137, Wire.count(n, 1));
            for (int k = 0; k < frame.length; k++) {
                Check.due("not before byte " + k + " of " + n, desk.session(0, 1), 0);
                Wire.feed(desk, 0, frame[k]);
            }
            Check.due("with its last byte, of " + n, desk.session(0, 1), 2 + n);
        }
        BrokerDesk desk = Wire.opened(1);
        Wire.feed(desk, 0, Wire.frame(1, 9, 3));
        int[] empty = Wire.frame(128);
        for (int b : empty) {
            Check.due("the message is not whole yet", desk.session(0, 4), 0);
            Check.due("its bytes", desk.session(0, 2), 2);
            Wire.feed(desk, 0, b);
        }
        Check.due("with the last byte of the mask it is", desk.session(0, 4), 1);
        Check.due("and has no more bytes", desk.session(0, 2), 0);
    }

    /** "CONTROLS (also between parts)" */
    private static void controlsBetweenParts() {
        for (int o = 9; o <= 10; o++) {
            for (int n = 0; n <= 16; n += 16) {
                BrokerDesk desk = Wire.opened(1);
                int[] control = Wire.frame(128 + o, Wire.count(n, 1));
                Wire.feed(desk, 0, control);
                Wire.feed(desk, 0, Wire.frame(1, 3, 1));
                Wire.feed(desk, 0, control);
                Wire.feed(desk, 0, Wire.frame(0));
                Wire.feed(desk, 0, control);
                Check.due("no data of the message", desk.session(0, 2), 2);
                Wire.feed(desk, 0, Wire.frame(128, 0, 77));
                Check.due("the message is whole", desk.item(1, 0, 0), 77);
                Check.due("and has nothing of them", desk.item(1, 0, 1), -1);
                Check.due("one COMMAND", desk.session(0, 4), 1);
                Check.due("answers", desk.session(0, 1), o == 9 ? 3 * (2 + n) : 0);
                Check.due("nor has the PAST", desk.past(0, 4), -1);
            }
        }
        BrokerDesk desk = Wire.opened(1);
        Wire.feed(desk, 0, Wire.frame(1, 3, 1));
        Wire.feed(desk, 0, Wire.frame(136));
        Check.due("8 between parts", desk.session(0, 0), BrokerDesk.CLOSING);
        Check.due("the message is none any more", desk.session(0, 2), 0);
    }

    /** "9 is answered with a FRAME 10 and the same data; 8 with a FRAME 8 and the same data" */
    private static void askedAndClosed() {
        for (int n = 0; n <= 16; n++) {
            BrokerDesk desk = Wire.opened(3);
            int[] data = Wire.count(n, 245);
            Wire.feed(desk, 0, Wire.frame(137, data));
            Wire.dueOutput("asked with " + n, desk, 0, Wire.join(Wire.bytes(138, n), data));
            Check.due("goes on", desk.session(0, 0), BrokerDesk.OPEN);
            Wire.feed(desk, 1, Wire.frame(136, data));
            Wire.dueOutput("closed with " + n, desk, 1, Wire.join(Wire.bytes(136, n), data));
            Check.due("ends", desk.session(1, 0), BrokerDesk.CLOSING);
            Check.due("without a FAULT", desk.session(1, 3), 0);
            Wire.feed(desk, 2, Wire.frame(138, data));
            Wire.dueOutput("10 with " + n, desk, 2);
            Check.due("goes on too", desk.session(2, 0), BrokerDesk.OPEN);
        }
    }

    /** "how many were looked at (fewer if it ENDS)": with each number of bytes behind the last one. */
    private static void closedInTheMiddle() {
        for (int n = 6; n <= 8; n++) {
            BrokerDesk desk = Wire.opened(1);
            Check.due("closed with " + n + " bytes", desk.feed(0, 0x8281_0000_0000_8088L, n), 6);
            Wire.dueOutput("closed", desk, 0, 136, 0);
            Check.due("then not OPEN", desk.feed(0, 0x81, 1), -1);
        }
        BrokerDesk desk = Wire.opened(1);
        Check.due("five of six bytes", desk.feed(0, 0x8088L, 5), 5);
        Check.due("are not all", desk.session(0, 0), BrokerDesk.OPEN);
        Check.due("the sixth one, of eight", desk.feed(0, 0, 8), 1);
        Check.due("is the last one", desk.session(0, 0), BrokerDesk.CLOSING);
    }

    /** "open: INPUT begins with a new FRAME and a new message." At each byte that can be the last one before. */
    private static void newFrameNewMessage() {
        int[] rows = Wire.join(Wire.frame(1, 3, 0), Wire.frame(138, 1, 2), Wire.frame(0, 0, 5),
            Wire.bytes(128, 254, 0, 130, 1, 2, 3, 4, 5, 6));
        for (int cut = 1; cut <= rows.length; cut++) {
            BrokerDesk desk = Wire.opened(1);
            Wire.feed(desk, 0, java.util.Arrays.copyOf(rows, cut));
            Check.due("no fault before " + cut, desk.session(0, 3), 0);
            desk.shut(0);
            Check.due("SHUT: no data", desk.session(0, 2), 0);
            desk.open(0);
            Check.due("a new message has no data", desk.session(0, 2), 0);
            Wire.feed(desk, 0, Wire.frame(1, 9));
            Check.due("behind " + cut + " a new part", desk.session(0, 2), 1);
            Wire.feed(desk, 0, Wire.frame(128, 8));
            Wire.dueOutput("behind " + cut, desk, 0, 129, 2, 9, 8);
        }
    }
}
