/** Makes frames, feeds them and reads what is written back. */
final class Wire {
    static final int FINAL = 128;
    static final int PACKED = 64;
    static final int[] MASK = {0x5a, 0xff, 0x00, 0x13};

    private Wire() { }

    static int[] bytes(int... b) {
        return b;
    }

    static int[] join(int[]... parts) {
        int n = 0;
        for (int[] part : parts) {
            n += part.length;
        }
        int[] all = new int[n];
        int at = 0;
        for (int[] part : parts) {
            for (int b : part) {
                all[at++] = b;
            }
        }
        return all;
    }

    static int[] count(int n, int first) {
        int[] row = new int[n];
        for (int k = 0; k < n; k++) {
            row[k] = (first + k) & 255;
        }
        return row;
    }

    static int[] fill(int n, int b) {
        int[] row = new int[n];
        java.util.Arrays.fill(row, b);
        return row;
    }

    /** A frame with its head byte as given, its length in the shortest form, a mask, and the data. */
    static int[] frame(int head, int... data) {
        int n = data.length;
        int[] length = n < 126 ? bytes(128 + n) : bytes(128 + 126, n >> 8, n & 255);
        int[] masked = new int[n];
        for (int k = 0; k < n; k++) {
            masked[k] = data[k] ^ MASK[k % 4];
        }
        return join(bytes(head), length, MASK, masked);
    }

    /** Feeds a row of bytes, as many at once as feed takes: how many were looked at. */
    static int feed(BrokerDesk desk, int session, int... row) {
        int looked = 0;
        for (int at = 0; at < row.length; at += 8) {
            int n = Math.min(8, row.length - at);
            long all = 0;
            for (int k = 0; k < n; k++) {
                all |= (long) row[at + k] << (8 * k);
            }
            int answer = desk.feed(session, all, n);
            if (answer < 0) {
                return looked == 0 ? answer : looked;
            }
            looked += answer;
            if (answer < n) {
                return looked;
            }
        }
        return looked;
    }

    /** A message in one frame, not packed. */
    static int tell(BrokerDesk desk, int session, int... command) {
        return feed(desk, session, frame(FINAL + 1, command));
    }

    static int tellPacked(BrokerDesk desk, int session, int... packed) {
        return feed(desk, session, frame(FINAL + PACKED + 1, packed));
    }

    static BrokerDesk opened(int sessions) {
        BrokerDesk desk = new BrokerDesk();
        for (int session = 0; session < sessions; session++) {
            desk.open(session);
        }
        return desk;
    }

    /** Compares the whole output with what is due. */
    static void dueOutput(String what, BrokerDesk desk, int session, int... want) {
        Check.due(what + ": bytes", desk.session(session, 1), want.length);
        for (int k = 0; k < want.length; k++) {
            Check.due(what + ": byte " + k, desk.output(session, k), want[k]);
        }
        Check.due(what + ": behind the last byte", desk.output(session, want.length), BrokerDesk.REFUSED);
    }

    /** Compares the latest bytes of the past, told in the order in which they came. */
    static void duePast(String what, BrokerDesk desk, int session, int... want) {
        for (int k = 0; k < want.length; k++) {
            Check.due(what + ": past " + k, desk.past(session, k), want[want.length - 1 - k]);
        }
    }

    static void drain(BrokerDesk desk, int session) {
        while (desk.take(session, 7) >= 0) { }
        while (desk.take(session, 1) >= 0) { }
    }

    /** Fills the output with answers to questions until no more than `left` bytes are free. */
    static void fillOutput(BrokerDesk desk, int session, int left) {
        while (240 - desk.session(session, 1) - left >= 20) {
            feed(desk, session, frame(FINAL + 9, fill(16, 7)));
        }
        int rest = 240 - desk.session(session, 1) - left;
        if (rest > 18) {
            feed(desk, session, frame(FINAL + 9));
            rest -= 2;
        }
        if (rest >= 2) {
            feed(desk, session, frame(FINAL + 9, fill(rest - 2, 7)));
        }
    }
}
