import java.util.ArrayList;
import java.util.List;
import java.util.TreeSet;

/**
 * The document once more, written with the Java library and without a thought of room or speed, so that
 * ModelTest can compare the two. It reads a frame anew from its first byte each time one byte more comes.
 */
final class Model {
    static final class Item {
        int[] body;
        int tries;
    }

    static final class Held {
        int tag;
        Subscription by;
        Item item;
    }

    static final class Subscription {
        int session;
        int s;
        int place;
        int mode;
        int credit;
    }

    static final class Session {
        int state;
        int fault;
        int commands;
        int tag;
        List<Integer> output = new ArrayList<>();
        List<Integer> past = new ArrayList<>();
        List<Integer> frame = new ArrayList<>();
        List<Integer> parts = null;
        boolean packed;
        Subscription[] subscriptions = new Subscription[4];
        /** In the order of giving, those of all subscriptions. */
        List<Held> held = new ArrayList<>();
        TreeSet<Integer> begun = new TreeSet<>();
        List<List<Integer>> kept = new ArrayList<>();
    }

    final Session[] sessions = new Session[4];
    final List<List<Item>> queues = new ArrayList<>();
    final int[] given = new int[6];
    final int[] lost = new int[6];
    final int[] latest = {-1, -1, -1, -1, -1, -1};

    Model() {
        for (int session = 0; session < 4; session++) {
            sessions[session] = new Session();
        }
        for (int t = 0; t < 3; t++) {
            queues.add(new ArrayList<>());
        }
    }

    private Session at(int session) {
        return session < 0 || session > 3 ? null : sessions[session];
    }

    boolean open(int session) {
        Session one = at(session);
        if (one == null || one.state != 0) {
            return false;
        }
        one.state = 1;
        return true;
    }

    boolean shut(int session) {
        Session one = at(session);
        if (one == null || one.state == 0) {
            return false;
        }
        if (one.state == 1) {
            end(one);
        }
        sessions[session] = new Session();
        queuesGive();
        return true;
    }

    int feed(int session, long bytes, int n) {
        Session one = at(session);
        if (one == null || n < 1 || n > 8 || one.state != 1) {
            return -1;
        }
        for (int i = 0; i < n; i++) {
            int fault = look(session, one, (int) (bytes >> 8 * i & 255));
            if (fault != 0) {
                one.fault = fault;
                write(one, 8, List.of(fault));
                end(one);
            }
            queuesGive();
            if (one.state != 1) {
                return i + 1;
            }
        }
        return n;
    }

    long take(int session, int n) {
        Session one = at(session);
        if (one == null || n < 1 || n > 7 || one.output.size() < n) {
            return -1;
        }
        long all = 0;
        long unit = 1;
        for (int k = 0; k < n; k++) {
            all += unit * one.output.remove(0);
            unit *= 256;
        }
        queuesGive();
        return all;
    }

    int output(int session, int k) {
        Session one = at(session);
        return one == null || k < 0 || k >= one.output.size() ? -1 : one.output.get(k);
    }

    int past(int session, int k) {
        Session one = at(session);
        return one == null || k < 0 || k >= one.past.size() ? -1 : one.past.get(one.past.size() - 1 - k);
    }

    int session(int session, int what) {
        Session one = at(session);
        if (one == null || what < 0 || what > 7) {
            return -1;
        }
        int bits = 0;
        for (int x : one.begun) {
            bits += x;
        }
        return new int[] {one.state, one.output.size(), came(one), one.fault, one.commands, one.tag,
            one.kept.size(), bits}[what];
    }

    int subscription(int session, int s, int what) {
        Session one = at(session);
        if (one == null || s < 0 || s > 3 || what < 0 || what > 4 || one.subscriptions[s] == null) {
            return -1;
        }
        Subscription by = one.subscriptions[s];
        List<Held> its = heldBy(one, by);
        return new int[] {by.place, by.mode, by.credit, its.size(), its.isEmpty() ? -1 : its.get(0).tag}[what];
    }

    int place(int t, int what) {
        if (t < 0 || t > 5 || what < 0 || what > 4) {
            return -1;
        }
        List<Item> items = t < 3 ? queues.get(t) : List.of();
        return new int[] {items.size(), given[t], lost[t], latest[t],
            items.isEmpty() ? 0 : items.get(0).tries}[what];
    }

    int item(int t, int i, int k) {
        if (t < 0 || t > 2 || i < 0 || i >= queues.get(t).size()) {
            return -1;
        }
        int[] body = queues.get(t).get(i).body;
        return k < 0 || k >= body.length ? -1 : body[k];
    }

    int ready(int t, int n) {
        if (t < 0 || t > 5 || n < 1 || n > 16) {
            return -1;
        }
        int count = 0;
        for (int ring = 0; ring < 16; ring++) {
            count += can(ring, t, n) ? 1 : 0;
        }
        return count;
    }

    int shortest(int session, int n) {
        Session one = at(session);
        if (one == null || n < 1 || n > one.past.size()) {
            return -1;
        }
        return least(one.past.stream().mapToInt(b -> b).toArray(), n);
    }

    /** Which ends can be reached with 0, 1, 2, .. bytes, until the last one can. */
    static int least(int[] past, int n) {
        List<TreeSet<Integer>> reached = new ArrayList<>();
        for (int price = 0; ; price++) {
            TreeSet<Integer> now = new TreeSet<>();
            if (price == 0) {
                now.add(past.length - n);
            }
            for (int run = 1; run <= 128 && run + 1 <= price; run++) {
                for (int from : reached.get(price - run - 1)) {
                    if (from + run <= past.length) {
                        now.add(from + run);
                    }
                }
            }
            if (price >= 2) {
                for (int from : reached.get(price - 2)) {
                    for (int d = 0; d < from; d++) {
                        int end = from;
                        while (end < past.length && end - from < 33 && past[end] == past[end - d - 1]) {
                            end++;
                            if (end - from >= 2) {
                                now.add(end);
                            }
                        }
                    }
                }
            }
            if (now.contains(past.length)) {
                return price;
            }
            reached.add(now);
        }
    }

    boolean holdsSameTag(int session) {
        TreeSet<Integer> tags = new TreeSet<>();
        for (Held h : sessions[session].held) {
            if (!tags.add(h.tag)) {
                return true;
            }
        }
        return false;
    }

    // ---- input ----

    /** Data bytes of the frame that is not done, if it is a part, and of the parts before it. */
    private int came(Session one) {
        int before = one.parts == null ? 0 : one.parts.size();
        List<Integer> frame = one.frame;
        if (frame.size() < 2 || frame.get(0) % 16 > 1) {
            return before;
        }
        int head = frame.get(1) % 128 == 126 ? 8 : 6;
        return before + Math.max(0, frame.size() - head);
    }

    private int look(int session, Session one, int b) {
        List<Integer> frame = one.frame;
        frame.add(b);
        int fault = judge(one);
        if (fault != 0) {
            return fault;
        }
        if (frame.size() < 2) {
            return 0;
        }
        boolean wide = frame.get(1) % 128 == 126;
        int head = wide ? 8 : 6;
        if (frame.size() < head) {
            return 0;
        }
        int length = wide ? frame.get(2) * 256 + frame.get(3) : frame.get(1) % 128;
        if (frame.size() < head + length) {
            return 0;
        }
        List<Integer> data = new ArrayList<>();
        for (int k = 0; k < length; k++) {
            data.add(frame.get(head + k) ^ frame.get(head - 4 + k % 4));
        }
        int first = frame.get(0);
        one.frame = new ArrayList<>();
        return done(session, one, first, data);
    }

    private int judge(Session one) {
        List<Integer> frame = one.frame;
        int first = frame.get(0);
        int o = first % 16;
        boolean control = o == 8 || o == 9 || o == 10;
        if (frame.size() == 1) {
            boolean wrong = !control && o != 0 && o != 1;
            wrong |= o == 0 && one.parts == null;
            wrong |= o == 1 && one.parts != null;
            wrong |= first / 64 % 2 == 1 && o != 1;
            wrong |= first / 32 % 2 == 1 || first / 16 % 2 == 1;
            wrong |= control && first < 128;
            return wrong ? 2 : 0;
        }
        int n = frame.get(1) % 128;
        int before = one.parts == null ? 0 : one.parts.size();
        if (frame.size() == 2) {
            if (frame.get(1) < 128 || n == 127 || control && n > 16) {
                return 2;
            }
            return !control && n != 126 && before + n > 200 ? 9 : 0;
        }
        if (frame.size() == 4 && n == 126) {
            int length = frame.get(2) * 256 + frame.get(3);
            return length < 126 ? 2 : before + length > 200 ? 9 : 0;
        }
        return 0;
    }

    private int done(int session, Session one, int first, List<Integer> data) {
        int o = first % 16;
        if (o == 9) {
            write(one, 10, data);
        } else if (o == 8) {
            write(one, 8, data);
            end(one);
        } else if (o < 2) {
            if (o == 1) {
                one.parts = new ArrayList<>();
                one.packed = first / 64 % 2 == 1;
            }
            one.parts.addAll(data);
            if (first >= 128) {
                List<Integer> whole = one.parts;
                one.parts = null;
                return message(session, one, whole);
            }
        }
        return 0;
    }

    private int message(int session, Session one, List<Integer> whole) {
        List<Integer> all = new ArrayList<>(one.past);
        if (one.packed) {
            int fault = unpack(all, whole, one.past.size() + 200);
            if (fault != 0) {
                return fault;
            }
        } else {
            all.addAll(whole);
        }
        List<Integer> plain = new ArrayList<>(all.subList(one.past.size(), all.size()));
        one.past = new ArrayList<>(all.subList(Math.max(0, all.size() - 64), all.size()));
        if (!command(session, one, plain)) {
            return 8;
        }
        one.commands++;
        return 0;
    }

    private static int unpack(List<Integer> all, List<Integer> packed, int most) {
        int at = 0;
        while (at < packed.size()) {
            int b = packed.get(at++);
            if (b >= 160) {
                return 7;
            }
            int count = b < 128 ? b + 1 : b - 126;
            int d = -1;
            if (b >= 128) {
                if (at == packed.size()) {
                    return 7;
                }
                d = packed.get(at++);
                if (d >= all.size()) {
                    return 7;
                }
            }
            for (int k = 0; k < count; k++) {
                if (d < 0 && at == packed.size()) {
                    return 7;
                }
                all.add(d < 0 ? packed.get(at++) : all.get(all.size() - 1 - d));
                if (all.size() > most) {
                    return 9;
                }
            }
        }
        return 0;
    }

    // ---- commands ----

    private boolean command(int session, Session one, List<Integer> c) {
        int n = c.size();
        int op = n == 0 ? 0 : c.get(0);
        if (op == 1 && n == 5) {
            int s = c.get(1);
            if (s > 3 || one.subscriptions[s] != null || c.get(2) > 5 || c.get(3) > 2
                || c.get(4) < 1 || c.get(4) > 5) {
                return false;
            }
            Subscription by = new Subscription();
            by.session = session;
            by.s = s;
            by.place = c.get(2);
            by.mode = c.get(3);
            by.credit = c.get(4);
            one.subscriptions[s] = by;
            return true;
        }
        if (op == 2 && n == 2 && c.get(1) < 4 && one.subscriptions[c.get(1)] != null) {
            endOf(one, c.get(1));
            return true;
        }
        if (op == 3 && n >= 4 && n <= 19 && c.get(1) < 6 || (op == 4 || op == 5) && n == 3) {
            if (c.get(2) == 0) {
                act(one, c);
                return true;
            }
            if (!one.begun.contains(c.get(2)) || one.kept.size() == 6) {
                return false;
            }
            one.kept.add(c);
            return true;
        }
        if (op == 6 && n == 2 && (c.get(1) == 1 || c.get(1) == 2)) {
            return one.begun.add(c.get(1));
        }
        if ((op == 7 || op == 8) && n == 2 && one.begun.remove(c.get(1))) {
            List<List<Integer>> all = one.kept;
            one.kept = new ArrayList<>();
            for (List<Integer> k : all) {
                if (!k.get(2).equals(c.get(1))) {
                    one.kept.add(k);
                } else if (op == 7) {
                    act(one, k);
                }
            }
            return true;
        }
        if (op == 9 && n == 2) {
            write(one, 1, c);
            return true;
        }
        return false;
    }

    private void act(Session one, List<Integer> c) {
        if (c.get(0) == 3) {
            Item item = new Item();
            item.body = c.subList(3, c.size()).stream().mapToInt(b -> b).toArray();
            send(c.get(1), item);
        } else {
            settle(one, c.get(1), c.get(0) == 5);
        }
    }

    private void send(int t, Item item) {
        if (t < 3) {
            if (queues.get(t).size() == 8) {
                lost[t]++;
            } else {
                queues.get(t).add(item);
            }
            return;
        }
        for (int ring = 0; ring < 16; ring++) {
            if (can(ring, t, item.body.length)) {
                give(ring, item);
            }
        }
    }

    private static List<Held> heldBy(Session one, Subscription by) {
        List<Held> its = new ArrayList<>();
        for (Held h : one.held) {
            if (h.by == by) {
                its.add(h);
            }
        }
        return its;
    }

    private void settle(Session one, int tag, boolean refused) {
        for (Held h : one.held) {
            if (h.tag == tag) {
                List<Held> its = heldBy(one, h.by);
                int last = its.indexOf(h);
                List<Held> gone = its.subList(h.by.mode == 2 ? 0 : last, last + 1);
                one.held.removeAll(gone);
                if (refused) {
                    comeBack(h.by.place, gone, 1);
                }
                return;
            }
        }
    }

    private void comeBack(int t, List<Held> gone, int more) {
        if (t > 2) {
            return;
        }
        for (int i = gone.size() - 1; i >= 0; i--) {
            Item item = gone.get(i).item;
            item.tries += more;
            if (item.tries == 3 || queues.get(t).size() == 8) {
                lost[t]++;
            } else {
                queues.get(t).add(0, item);
            }
        }
    }

    private void endOf(Session one, int s) {
        Subscription by = one.subscriptions[s];
        List<Held> its = heldBy(one, by);
        one.held.removeAll(its);
        one.subscriptions[s] = null;
        comeBack(by.place, its, 0);
    }

    private void end(Session one) {
        one.state = 2;
        for (int s = 0; s < 4; s++) {
            if (one.subscriptions[s] != null) {
                endOf(one, s);
            }
        }
        one.begun.clear();
        one.kept.clear();
        one.frame.clear();
        one.parts = null;
    }

    // ---- giving and writing ----

    private boolean can(int ring, int t, int n) {
        Session one = sessions[ring / 4];
        Subscription by = one.subscriptions[ring % 4];
        return by != null && by.place == t && one.state == 1 && one.output.size() + 5 + n <= 240
            && (by.mode == 0 || heldBy(one, by).size() < by.credit);
    }

    private void give(int ring, Item item) {
        Session one = sessions[ring / 4];
        Subscription by = one.subscriptions[ring % 4];
        List<Integer> data = new ArrayList<>(List.of(1, by.s, one.tag));
        for (int b : item.body) {
            data.add(b);
        }
        write(one, 1, data);
        if (by.mode != 0) {
            Held h = new Held();
            h.tag = one.tag;
            h.by = by;
            h.item = item;
            one.held.add(h);
        }
        one.tag = one.tag == 255 ? 0 : one.tag + 1;
        given[by.place]++;
        latest[by.place] = ring;
    }

    private void queuesGive() {
        for (int t = 0; t < 3; t++) {
            boolean gave = true;
            while (gave && !queues.get(t).isEmpty()) {
                gave = false;
                int n = queues.get(t).get(0).body.length;
                for (int k = 0; k < 16 && !gave; k++) {
                    int ring = (latest[t] + 1 + k) % 16;
                    if (can(ring, t, n)) {
                        give(ring, queues.get(t).remove(0));
                        gave = true;
                    }
                }
            }
        }
    }

    private static void write(Session one, int o, List<Integer> data) {
        if (one.output.size() + 2 + data.size() <= 240) {
            one.output.add(128 + o);
            one.output.add(data.size());
            one.output.addAll(data);
        }
    }
}
