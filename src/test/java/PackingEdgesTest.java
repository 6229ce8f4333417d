/** The sentences on UNPACKING, the PAST and shortest that name a bound: each on both of its sides. */
public final class PackingEdgesTest {
    public static void main(String[] args) {
        literals();
        copies();
        otherBytes();
        somethingIsMissing();
        noSuchByteBefore();
        pastAndUnpackedTogether();
        asItGrows();
        moreThan200();
        sevenOrNine();
        emptyMessages();
        notPacked();
        pastOf64();
        pastWithFaults();
        pastOfWholeMessages();
        shortestLengths();
        shortestReaches();
        shortestOf64();
        Check.end();
    }

    /** A session whose PAST has n bytes (even): pairs of 9 and a number from 100 on. */
    private static BrokerDesk withPast(int n) {
        BrokerDesk desk = Wire.opened(1);
        for (int k = 0; k < n / 2; k++) {
            Wire.tell(desk, 0, 9, 100 + k);
        }
        Wire.drain(desk, 0);
        return desk;
    }

    /** What comes out is no COMMAND, but is seen in the PAST. */
    private static void dueOut(String what, BrokerDesk desk, int before, int[] packed, int... out) {
        Wire.tellPacked(desk, 0, packed);
        Check.due(what + ": fault", desk.session(0, 3), 8);
        Wire.duePast(what, desk, 0, out);
        if (before + out.length < 64) {
            Check.due(what + ": no more bytes", desk.past(0, before + out.length), -1);
        }
    }

    private static void dueFault(String what, BrokerDesk desk, int fault, int... packed) {
        Wire.tellPacked(desk, 0, packed);
        Check.due(what + ": fault", desk.session(0, 3), fault);
        Wire.dueOutput(what, desk, 0, 136, 1, fault);
    }

    /** "b below 128: b + 1 bytes that follow, as they are" */
    private static void literals() {
        for (int b : new int[] {0, 1, 2, 30, 62}) {
            int[] out = Wire.count(b + 1, 150);
            dueOut("b is " + b, Wire.opened(1), 0, Wire.join(Wire.bytes(b), out), out);
        }
        int[] most = Wire.count(128, 100);
        dueOut("b is 127", Wire.opened(1), 0, Wire.join(Wire.bytes(127), most),
            java.util.Arrays.copyOfRange(most, 64, 128));
        int[] then = Wire.join(Wire.bytes(127), most, Wire.bytes(0, 33));
        dueOut("b is 127, and one more", Wire.opened(1), 0, then,
            Wire.join(java.util.Arrays.copyOfRange(most, 65, 128), Wire.bytes(33)));
        dueOut("bytes of 128 and more follow", Wire.opened(1), 0, Wire.bytes(3, 128, 159, 160, 255),
            128, 159, 160, 255);
    }

    /** "b 128..159 and d: b - 126 bytes" */
    private static void copies() {
        for (int b : new int[] {128, 129, 158, 159}) {
            dueOut("b is " + b, Wire.opened(1), 0, Wire.bytes(0, 77, b, 0), Wire.fill(1 + b - 126, 77));
        }
        dueOut("with the PAST alone", withPast(2), 2, Wire.bytes(159, 0), Wire.fill(33, 100));
    }

    /** "FAULT 7 if b is another one" */
    private static void otherBytes() {
        for (int b : new int[] {160, 161, 191, 192, 254, 255}) {
            dueFault("b is " + b, withPast(4), 7, b, 0);
            dueFault("b is " + b + " and the last byte", withPast(4), 7, 0, 50, b);
        }
        dueOut("b is 159", withPast(4), 4, Wire.bytes(159, 0), Wire.fill(33, 101));
    }

    /** "something is missing" */
    private static void somethingIsMissing() {
        for (int b : new int[] {0, 1, 2, 126, 127}) {
            dueFault("all of " + (b + 1), withPast(4), 7, b);
            dueFault("one of " + (b + 1), withPast(4), 7, Wire.join(Wire.bytes(b), Wire.fill(b, 50)));
        }
        for (int b = 128; b < 160; b++) {
            dueFault("d behind " + b, withPast(4), 7, b);
            dueFault("d behind " + b + " behind others", withPast(4), 7, 0, 50, b);
        }
    }

    /** "or there is no such byte before" */
    private static void noSuchByteBefore() {
        for (int d : new int[] {0, 1, 255}) {
            dueFault("none at all, " + d, Wire.opened(1), 7, 128, d);
        }
        for (int n : new int[] {2, 4, 32, 62, 64}) {
            dueOut("the oldest of " + n, withPast(n), n, Wire.bytes(129, n - 1), 9, 100, 9);
            dueFault("one before " + n, withPast(n), 7, 128, n);
            dueFault("256 before", withPast(n), 7, 128, 255);
        }
        // The PAST holds no more than 64, though more came.
        dueFault("the 65th of 80", withPast(80), 7, 128, 64);
        dueOut("the 64th of 80", withPast(80), 64, Wire.bytes(129, 63), 9, 108, 9);
    }

    /** "the one d + 1 before the end of the PAST and all that was UNPACKED" */
    private static void pastAndUnpackedTogether() {
        int[] ten = Wire.join(Wire.bytes(9), Wire.count(10, 50));
        dueOut("74 before", withPast(64), 64, Wire.join(ten, Wire.bytes(129, 73)), 59, 9, 100, 9);
        dueFault("75 before", withPast(64), 7, Wire.join(ten, Wire.bytes(129, 74)));
        dueOut("the last one UNPACKED", withPast(64), 64, Wire.join(ten, Wire.bytes(128, 0)), 58, 59, 59, 59);
        dueOut("the first one UNPACKED", withPast(64), 64, Wire.join(ten, Wire.bytes(128, 9)), 59, 50, 51);
        dueOut("the last one of the PAST, and on", withPast(64), 64, Wire.join(ten, Wire.bytes(129, 10)),
            59, 131, 50, 51);
        dueOut("without a PAST", Wire.opened(1), 0, Wire.join(ten, Wire.bytes(128, 9)),
            Wire.join(Wire.count(10, 50), Wire.bytes(50, 51)));
        dueFault("without a PAST, one before", Wire.opened(1), 7, Wire.join(ten, Wire.bytes(128, 10)));
        int[] most = Wire.join(Wire.bytes(127), Wire.count(128, 0), Wire.bytes(63), Wire.count(64, 0));
        dueOut("256 before", withPast(64), 64, Wire.join(most, Wire.bytes(128, 255)), 63, 9, 100);
        dueFault("256 before, with a byte less", withPast(62), 7, Wire.join(most, Wire.bytes(128, 255)));
    }

    /** "as it grows" */
    private static void asItGrows() {
        dueOut("by one", withPast(2), 2, Wire.bytes(131, 0), 100, 100, 100, 100, 100);
        dueOut("by two", withPast(2), 2, Wire.bytes(131, 1), 9, 100, 9, 100, 9);
        dueOut("over the end of the PAST", withPast(2), 2, Wire.bytes(0, 50, 131, 1), 50, 100, 50, 100, 50, 100);
    }

    /** 199 bytes come out of these 14. */
    private static int[] comes199() {
        return Wire.bytes(0, 1, 159, 0, 159, 0, 159, 0, 159, 0, 159, 0, 159, 0);
    }

    /** "9 if more than 200 come out (as soon as that is so)" */
    private static void moreThan200() {
        int[] last = Wire.fill(64, 1);
        dueOut("199", Wire.opened(1), 0, comes199(), last);
        dueOut("200 by a byte", Wire.opened(1), 0, Wire.join(comes199(), Wire.bytes(0, 1)), last);
        dueFault("201 by bytes", Wire.opened(1), 9, Wire.join(comes199(), Wire.bytes(1, 1, 1)));
        dueFault("201 by a copy", Wire.opened(1), 9, Wire.join(comes199(), Wire.bytes(128, 0)));
        int[] comes198 = Wire.join(Wire.bytes(0, 1), Wire.bytes(159, 0, 159, 0, 159, 0, 159, 0, 159, 0, 158, 0));
        dueOut("200 by a copy", Wire.opened(1), 0, Wire.join(comes198, Wire.bytes(128, 0)), last);
        dueFault("201 by a longer copy", Wire.opened(1), 9, Wire.join(comes198, Wire.bytes(129, 0)));
        dueFault("200 and a byte", Wire.opened(1), 9, Wire.join(comes199(), Wire.bytes(0, 1, 0, 1)));
        dueFault("far more", Wire.opened(1), 9, Wire.join(comes199(), comes199()));
        // The PAST is not counted: 200 come out behind 64 as well.
        dueOut("200 behind a PAST", withPast(64), 64, Wire.join(comes199(), Wire.bytes(0, 1)), last);
        dueFault("201 behind a PAST", withPast(64), 9, Wire.join(comes199(), Wire.bytes(1, 1, 1)));
    }

    /** "(as soon as that is so)": what comes first is the FAULT. */
    private static void sevenOrNine() {
        dueFault("201, then a wrong b", Wire.opened(1), 9, Wire.join(comes199(), Wire.bytes(1, 1, 1, 255)));
        dueFault("a wrong b, then 201", Wire.opened(1), 7, Wire.join(comes199(), Wire.bytes(255, 1, 1, 1)));
        dueFault("201, then a byte is missing", Wire.opened(1), 9, Wire.join(comes199(), Wire.bytes(5, 1, 1)));
        dueFault("200, then a byte is missing", Wire.opened(1), 7, Wire.join(comes199(), Wire.bytes(5, 1)));
        dueFault("no such byte, 201 if there were", Wire.opened(1), 7, Wire.join(comes199(), Wire.bytes(159, 199)));
        dueFault("200, then no such byte", Wire.opened(1), 7, Wire.join(comes199(), Wire.bytes(0, 1, 128, 200)));
        dueFault("201 by the oldest byte", Wire.opened(1), 9, Wire.join(comes199(), Wire.bytes(0, 1, 128, 199)));
        dueFault("200, then d is missing", Wire.opened(1), 7, Wire.join(comes199(), Wire.bytes(0, 1, 128)));
    }

    /** Nothing comes out of nothing: no FAULT of UNPACKING, but no COMMAND either. */
    private static void emptyMessages() {
        BrokerDesk desk = withPast(4);
        dueFault("an empty PACKED message", desk, 8);
        Check.due("it adds nothing to the PAST", desk.past(0, 4), -1);
        desk = withPast(4);
        Wire.tell(desk, 0);
        Check.due("an empty message", desk.session(0, 3), 8);
        Wire.duePast("it adds nothing", desk, 0, 9, 100, 9, 101);
        Check.due("it adds nothing to the PAST", desk.past(0, 4), -1);
    }

    /** "What is not PACKED is as it is." */
    private static void notPacked() {
        BrokerDesk desk = Wire.opened(1);
        Wire.tell(desk, 0, 3, 0, 0, 128, 0, 159, 255, 160);
        int[] body = {128, 0, 159, 255, 160};
        for (int k = 0; k < body.length; k++) {
            Check.due("byte " + k, desk.item(0, 0, k), body[k]);
        }
        Wire.duePast("as it is", desk, 0, 3, 0, 0, 128, 0, 159, 255, 160);
        Wire.tellPacked(desk, 0, 1, 9, 44);
        Check.due("PACKED", desk.session(0, 4), 2);
        Wire.tell(desk, 0, 9, 45);
        Wire.dueOutput("not PACKED again", desk, 0, 129, 2, 9, 44, 129, 2, 9, 45);
        Wire.feed(desk, 0, Wire.frame(64 + 1, 1, 9));
        Wire.feed(desk, 0, Wire.frame(128, 46));
        Check.due("the first part tells it for all", desk.output(0, 11), 46);
    }

    /** "a PAST, the last 64 bytes of the messages that came in it" */
    private static void pastOf64() {
        for (int n : new int[] {1, 63, 64, 65, 66, 127, 128, 129, 199, 200}) {
            BrokerDesk desk = Wire.opened(1);
            Wire.tell(desk, 0, Wire.count(n, 30));
            int there = Math.min(64, n);
            for (int k = 0; k < there; k++) {
                Check.due("byte " + k + " of " + n, desk.past(0, k), (30 + n - 1 - k) & 255);
            }
            Check.due("behind the last of " + n, desk.past(0, there), -1);
        }
        for (int n : new int[] {1, 2, 3, 63, 64, 65}) {
            BrokerDesk desk = withPast(62);
            Wire.tell(desk, 0, Wire.fill(n, 200));
            for (int k = 0; k < 64; k++) {
                // Of the 62 bytes before every second one, from the oldest one on, is a 9.
                int at = 62 + n - 1 - k;
                int due = at < 0 ? -1 : at >= 62 ? 200 : at % 2 == 0 ? 9 : 100 + at / 2;
                Check.due("byte " + k + " of 62 and " + n, desk.past(0, k), due);
            }
            Check.due("byte 64 of 62 and " + n, desk.past(0, 64), -1);
        }
    }

    /** "A message with FAULT 7 or 9 does not become part of the PAST, one with FAULT 8 does." */
    private static void pastWithFaults() {
        BrokerDesk desk = withPast(4);
        dueFault("7", desk, 7, 1, 50, 51, 255);
        Wire.duePast("7", desk, 0, 9, 100, 9, 101);
        Check.due("7: no more", desk.past(0, 4), -1);
        desk = withPast(4);
        dueFault("9", desk, 9, Wire.join(comes199(), Wire.bytes(1, 1, 1)));
        Wire.duePast("9", desk, 0, 9, 100, 9, 101);
        Check.due("9: no more", desk.past(0, 4), -1);
        desk = withPast(4);
        dueFault("8", desk, 8, 1, 50, 51);
        Wire.duePast("8", desk, 0, 9, 100, 9, 101, 50, 51);
        Check.due("8: no more", desk.past(0, 6), -1);
        desk = withPast(4);
        Wire.feed(desk, 0, Wire.frame(1, 60, 61));
        Wire.feed(desk, 0, 2);
        Check.due("2", desk.session(0, 3), 2);
        Wire.duePast("a message that is not whole", desk, 0, 9, 100, 9, 101);
        desk = withPast(4);
        Wire.feed(desk, 0, Wire.frame(1, Wire.fill(200, 60)));
        Wire.feed(desk, 0, 128, 129);
        Check.due("9 of a length", desk.session(0, 3), 9);
        Wire.duePast("a message that is too long", desk, 0, 9, 100, 9, 101);
    }

    /** "A message that is whole is UNPACKED, becomes part of the PAST": no sooner, and as it is UNPACKED. */
    private static void pastOfWholeMessages() {
        BrokerDesk desk = withPast(2);
        Wire.feed(desk, 0, Wire.frame(64 + 1, 0));
        Wire.feed(desk, 0, Wire.frame(137, 70, 71));
        Wire.feed(desk, 0, Wire.frame(0, 9));
        Wire.duePast("parts", desk, 0, 9, 100);
        Check.due("parts: no more", desk.past(0, 2), -1);
        Wire.feed(desk, 0, Wire.frame(128, 0, 44));
        Wire.duePast("whole", desk, 0, 9, 100, 9, 44);
        Check.due("whole: no more", desk.past(0, 4), -1);
        Wire.feed(desk, 0, Wire.frame(136, 5));
        Wire.duePast("a CLOSING one has its PAST", desk, 0, 9, 100, 9, 44);
        desk.shut(0);
        Check.due("a SHUT one has none", desk.past(0, 0), -1);
        desk.open(0);
        Check.due("it opens with none", desk.past(0, 0), -1);
        dueFault("and nothing can be copied from before", desk, 7, 128, 0);
        desk.shut(0);
        desk.open(0);
        Wire.tell(desk, 0, 9, 45);
        Wire.duePast("what comes then", desk, 0, 9, 45);
        Check.due("and that alone", desk.past(0, 2), -1);
    }

    /** The least number of bytes, where one way of packing begins to be the better one. */
    private static void shortestLengths() {
        for (int n : new int[] {1, 2, 3, 33, 34, 35, 36, 63}) {
            BrokerDesk desk = Wire.opened(1);
            Wire.tell(desk, 0, Wire.fill(64, 5));
            int copies = (n + 32) / 33;
            // One byte left over costs two as it is; a shorter copy before it makes it a copy of two.
            Check.due("the same byte " + n + " times", desk.shortest(0, n), 2 * copies);
        }
        for (int n : new int[] {1, 2, 16, 63, 64}) {
            BrokerDesk desk = Wire.opened(1);
            Wire.tell(desk, 0, Wire.count(64, 5));
            Check.due(n + " bytes, each for the first time", desk.shortest(0, n), n + 1);
        }
        BrokerDesk desk = Wire.opened(4);
        Wire.tell(desk, 0, 1, 2, 3, 4, 2);
        Check.due("a copy has two bytes at least", desk.shortest(0, 1), 2);
        Check.due("so one between others is as it is", desk.shortest(0, 2), 3);
        Wire.tell(desk, 1, 1, 2, 50, 1, 2, 51);
        Check.due("a copy of two between others saves nothing", desk.shortest(1, 4), 5);
        Wire.tell(desk, 2, 1, 2, 3, 50, 1, 2, 3, 51);
        Check.due("nor does one of three", desk.shortest(2, 5), 6);
        Wire.tell(desk, 3, 1, 2, 3, 4, 50, 1, 2, 3, 4, 51);
        Check.due("one of four does", desk.shortest(3, 6), 6);
    }

    /** "with those of it before them alone as the PAST" */
    private static void shortestReaches() {
        BrokerDesk desk = Wire.opened(1);
        Wire.tell(desk, 0, 1, 2, 3, 4, 5, 6, 1, 2, 3, 4, 5, 6);
        Check.due("all before are there", desk.shortest(0, 6), 2);
        Check.due("the first of them is not", desk.shortest(0, 12), 7 + 2);
        Check.due("the copy begins behind its source", desk.shortest(0, 7), 2 + 2);
        desk = Wire.opened(1);
        Wire.tell(desk, 0, Wire.join(Wire.count(33, 1), Wire.count(31, 1)));
        Check.due("63 before, with one byte more", desk.shortest(0, 31), 2);
        desk = Wire.opened(1);
        Wire.tell(desk, 0, Wire.join(Wire.bytes(200, 201), Wire.count(60, 1), Wire.bytes(200, 201)));
        Check.due("62 before", desk.shortest(0, 2), 2);
        desk = Wire.opened(1);
        Wire.tell(desk, 0, Wire.join(Wire.bytes(200, 201), Wire.count(62, 1), Wire.bytes(201, 202)));
        Check.due("what left the PAST is not there", desk.shortest(0, 2), 3);
    }

    /** "n is not above 0, or there are not as many" */
    private static void shortestOf64() {
        BrokerDesk desk = Wire.opened(2);
        Wire.tell(desk, 0, Wire.count(70, 0));
        Check.due("0", desk.shortest(0, 0), -1);
        Check.due("1", desk.shortest(0, 1), 2);
        Check.due("64", desk.shortest(0, 64), 65);
        Check.due("65", desk.shortest(0, 65), -1);
        Check.due("1 of none", desk.shortest(1, 1), -1);
        Wire.tell(desk, 1, 9, 9);
        Check.due("2 of 2", desk.shortest(1, 2), 3);
        Check.due("3 of 2", desk.shortest(1, 3), -1);
        desk = Wire.opened(4);
        for (int session = 0; session < 4; session++) {
            Wire.tell(desk, session, Wire.fill(64, 5));
        }
        for (int session = 0; session < 4; session++) {
            Check.due("one byte 64 times, in " + session, desk.shortest(session, 64), 2 + 4);
            Check.due("the last one alone, in " + session, desk.shortest(session, 1), 2);
        }
    }
}
