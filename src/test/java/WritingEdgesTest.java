/** The sentences on the OUTPUT, and on what is WRITTEN and needs room: each on both of its sides. */
public final class WritingEdgesTest {
    public static void main(String[] args) {
        framesAsWritten();
        answersNeedRoom();
        closingNeedsRoom();
        faultsNeedRoom();
        echoNeedsRoom();
        nothingIsWrittenInPart();
        shorterOnesAreWrittenStill();
        rowOf240();
        takesOneToSeven();
        takesNoMoreThanThereAre();
        roomAgain();
        Check.end();
    }

    /** As many as told, and not one more. */
    private static void dueBytes(String what, BrokerDesk desk, int session, int bytes) {
        Check.due(what + ": bytes", desk.session(session, 1), bytes);
        Check.due(what + ": behind the last one", desk.output(session, bytes), -1);
        if (bytes > 0) {
            Check.due(what + ": the last one", desk.output(session, bytes - 1) >= 0, true);
        }
    }

    /** "WRITTEN are FRAMES with f, without p and m (messages as 1), to the end of the OUTPUT" */
    private static void framesAsWritten() {
        BrokerDesk desk = Wire.opened(1);
        Wire.tell(desk, 0, 9, 200);
        Wire.feed(desk, 0, Wire.frame(137, 1, 2, 3));
        Wire.tell(desk, 0, 1, 2, 3, 0, 1);
        Wire.tell(desk, 0, Wire.join(Wire.bytes(3, 3, 0), Wire.count(16, 50)));
        Wire.feed(desk, 0, 2);
        Wire.dueOutput("in the order in which they are WRITTEN", desk, 0, Wire.join(Wire.bytes(129, 2, 9, 200,
            138, 3, 1, 2, 3, 129, 19, 1, 2, 0), Wire.count(16, 50), Wire.bytes(136, 1, 2)));
    }

    /** "one for which there is no room is not written (nor what ... a CONTROL ... would say)" */
    private static void answersNeedRoom() {
        for (int n = 0; n <= 16; n++) {
            for (int less = 0; less <= 1; less++) {
                BrokerDesk desk = Wire.opened(1);
                int room = 2 + n - less;
                Wire.fillOutput(desk, 0, room);
                Wire.feed(desk, 0, Wire.frame(137, Wire.fill(n, 44)));
                String what = "asked with " + n + ", room " + room;
                dueBytes(what, desk, 0, less == 0 ? 240 : 240 - room);
                if (less == 0) {
                    Check.due(what + ": head", desk.output(0, 240 - 2 - n), 138);
                    Check.due(what + ": length", desk.output(0, 240 - 1 - n), n);
                }
                Check.due(what + ": the SESSION goes on", desk.session(0, 0), BrokerDesk.OPEN);
            }
        }
    }

    /** "8 with a FRAME 8 and the same data, and the SESSION ENDS": it ENDS without room for it as well. */
    private static void closingNeedsRoom() {
        for (int n = 0; n <= 16; n++) {
            for (int less = 0; less <= 1; less++) {
                BrokerDesk desk = Wire.opened(1);
                int room = 2 + n - less;
                Wire.fillOutput(desk, 0, room);
                Wire.feed(desk, 0, Wire.frame(136, Wire.fill(n, 44)));
                String what = "closed with " + n + ", room " + room;
                dueBytes(what, desk, 0, less == 0 ? 240 : 240 - room);
                if (less == 0) {
                    Check.due(what + ": head", desk.output(0, 240 - 2 - n), 136);
                    Check.due(what + ": length", desk.output(0, 240 - 1 - n), n);
                }
                Check.due(what + ": the SESSION ENDS all the same", desk.session(0, 0), BrokerDesk.CLOSING);
                Check.due(what + ": without a FAULT", desk.session(0, 3), 0);
            }
        }
    }

    /** "(nor what ... a FAULT would say)" */
    private static void faultsNeedRoom() {
        int[][] ways = {{2}, {129, 254, 0, 201}, Wire.frame(193, 255), Wire.frame(129, 10)};
        int[] faults = {2, 9, 7, 8};
        for (int way = 0; way < ways.length; way++) {
            for (int room = 0; room <= 4; room++) {
                BrokerDesk desk = Wire.opened(1);
                Wire.fillOutput(desk, 0, room);
                Wire.feed(desk, 0, ways[way]);
                String what = "FAULT " + faults[way] + ", room " + room;
                dueBytes(what, desk, 0, room < 3 ? 240 - room : 243 - room);
                if (room >= 3) {
                    Check.due(what + ": head", desk.output(0, 240 - room), 136);
                    Check.due(what + ": length", desk.output(0, 241 - room), 1);
                    Check.due(what + ": the FAULT", desk.output(0, 242 - room), faults[way]);
                }
                Check.due(what + ": is told all the same", desk.session(0, 3), faults[way]);
                Check.due(what + ": the SESSION ENDS all the same", desk.session(0, 0), BrokerDesk.CLOSING);
            }
        }
    }

    /** "(nor what 9 ... would say)" */
    private static void echoNeedsRoom() {
        for (int room = 0; room <= 5; room++) {
            BrokerDesk desk = Wire.opened(1);
            Wire.fillOutput(desk, 0, room);
            Wire.tell(desk, 0, 9, 44);
            dueBytes("9, room " + room, desk, 0, room < 4 ? 240 - room : 244 - room);
            if (room >= 4) {
                Check.due("its last byte", desk.output(0, 243 - room), 44);
            }
            Check.due("it is done all the same", desk.session(0, 4), 1);
            Check.due("without a FAULT", desk.session(0, 3), 0);
            Wire.duePast("and is part of the PAST", desk, 0, 9, 44);
        }
    }

    /** "one for which there is no room is not written": not even as much of it as there is room for. */
    private static void nothingIsWrittenInPart() {
        for (int room = 0; room < 18; room++) {
            BrokerDesk without = Wire.opened(1);
            Wire.fillOutput(without, 0, room);
            int[] before = new int[240 - room];
            for (int k = 0; k < before.length; k++) {
                before[k] = without.output(0, k);
            }
            BrokerDesk desk = Wire.opened(1);
            Wire.fillOutput(desk, 0, room);
            Wire.feed(desk, 0, Wire.frame(137, Wire.fill(16, 44)));
            Wire.dueOutput("room " + room, desk, 0, before);
        }
    }

    /** "one for which there is no room is not written": nor does it wait, or keep others from being written. */
    private static void shorterOnesAreWrittenStill() {
        BrokerDesk desk = Wire.opened(1);
        Wire.fillOutput(desk, 0, 10);
        Wire.feed(desk, 0, Wire.frame(137, Wire.fill(9, 44)));
        dueBytes("too long", desk, 0, 230);
        Wire.feed(desk, 0, Wire.frame(137, Wire.fill(2, 44)));
        dueBytes("shorter", desk, 0, 234);
        Wire.tell(desk, 0, 9, 1);
        dueBytes("shorter", desk, 0, 238);
        Wire.tell(desk, 0, 9, 1);
        dueBytes("too long", desk, 0, 238);
        Wire.feed(desk, 0, Wire.frame(137));
        dueBytes("the shortest one", desk, 0, 240);
        Wire.feed(desk, 0, Wire.frame(137));
        dueBytes("full", desk, 0, 240);
    }

    /** "an OUTPUT, a row of at most 240 bytes" */
    private static void rowOf240() {
        BrokerDesk desk = Wire.opened(4);
        for (int session = 0; session < 4; session++) {
            dueBytes("empty", desk, session, 0);
        }
        for (int k = 0; k < 61; k++) {
            Check.due("room for " + k, desk.session(1, 1), 4 * k);
            Wire.tell(desk, 1, 9, k);
        }
        dueBytes("60 messages", desk, 1, 240);
        for (int k = 0; k < 60; k++) {
            Check.due("message " + k, desk.output(1, 4 * k + 3), k);
        }
        dueBytes("the others have none", desk, 0, 0);
        dueBytes("the others have none", desk, 2, 0);
    }

    /** "The first n (1..7) bytes of the OUTPUT, the lowest one first; they leave it." */
    private static void takesOneToSeven() {
        for (int n = 1; n <= 7; n++) {
            BrokerDesk desk = Wire.opened(1);
            Wire.feed(desk, 0, Wire.frame(137, Wire.count(16, 240)));
            int[] row = Wire.join(Wire.bytes(138, 16), Wire.count(16, 240));
            int at = 0;
            while (at + n <= 18) {
                long due = 0;
                for (int k = 0; k < n; k++) {
                    due += (long) row[at + k] << (8 * k);
                }
                Check.due("take(0, " + n + ") at " + at, desk.take(0, n), due);
                at += n;
                Wire.dueOutput("they left it", desk, 0, java.util.Arrays.copyOfRange(row, at, 18));
            }
            Check.due("not as many", desk.take(0, n), -1);
            Wire.dueOutput("nothing changed", desk, 0, java.util.Arrays.copyOfRange(row, at, 18));
        }
    }

    /** "or there are not as many" */
    private static void takesNoMoreThanThereAre() {
        for (int there = 0; there <= 7; there++) {
            for (int n = 1; n <= 7; n++) {
                BrokerDesk desk = Wire.opened(1);
                Wire.feed(desk, 0, Wire.frame(137, Wire.fill(16, 3)));
                for (int k = 18; k > there; k--) {
                    desk.take(0, 1);
                }
                Check.due("take(0, " + n + ") of " + there, desk.take(0, n) >= 0, n <= there);
                dueBytes("take(0, " + n + ") of " + there, desk, 0, n <= there ? there - n : there);
            }
        }
    }

    /** More than 240 bytes go through the row, which is full, then not, then full again: they stay in order. */
    private static void roomAgain() {
        BrokerDesk desk = Wire.opened(1);
        int written = 0;
        int taken = 0;
        for (int k = 0; k < 60; k++) {
            Wire.tell(desk, 0, 9, written++);
        }
        for (int round = 0; round < 100; round++) {
            long due = 129 + (2L << 8) + (9L << 16) + ((long) taken++ << 24);
            Check.due("message " + taken, desk.take(0, 4), due);
            Wire.tell(desk, 0, 9, written++);
            Check.due("full again", desk.session(0, 1), 240);
        }
    }
}
