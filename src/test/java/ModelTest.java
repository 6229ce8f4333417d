import java.util.ArrayDeque;
import java.util.ArrayList;
import java.util.Deque;
import java.util.List;
import java.util.Random;

/**
 * All promises at once: random runs on a BrokerDesk and on the Model, which must answer the same.
 * A run makes at most 512 calls that may change something; looking in between changes nothing.
 */
public final class ModelTest {
    private static final int RUNS = 500;
    private static final int CALLS = 512;

    private final Random random;
    private final BrokerDesk desk = new BrokerDesk();
    private final Model model = new Model();
    private final List<Deque<Integer>> pending = new ArrayList<>();
    private final int number;
    // How a run goes: each of them in 0..99.
    private final int drains;
    private final int faults;
    private final int packs;
    private final int places;
    // Nearly all calls are for session 0, which gets so much that its tags begin again.
    private final boolean busy;

    // What was met in all runs, to see that they come to the edges.
    private static final int[] faultsMet = new int[10];
    private static int fullQueues = 0;
    private static int fullOutputs = 0;
    private static int lost = 0;
    private static int tagsWrapped = 0;
    private static int sameTags = 0;

    private ModelTest(int number) {
        this.number = number;
        random = new Random(number);
        for (int session = 0; session < 4; session++) {
            pending.add(new ArrayDeque<>());
        }
        busy = number % 10 == 7;
        drains = number % 3 == 0 ? 45 : random.nextInt(30);
        faults = busy ? 0 : number % 4 == 0 ? 5 : number % 4 == 1 ? 1 : 0;
        packs = random.nextInt(100);
        places = random.nextInt(3);
    }

    public static void main(String[] args) {
        for (int number = 0; number < RUNS; number++) {
            new ModelTest(number).run();
        }
        for (int fault : new int[] {0, 2, 7, 8, 9}) {
            Check.due("runs meet fault " + fault, faultsMet[fault] > 0, true);
        }
        Check.due("runs meet full queues", fullQueues > 0, true);
        Check.due("runs meet full outputs", fullOutputs > 0, true);
        Check.due("runs lose items", lost > 0, true);
        Check.due("runs come to a tag behind 255", tagsWrapped > 0, true);
        Check.due("runs hold two items with one tag", sameTags > 0, true);
        Check.end();
    }

    private void run() {
        for (int call = 0; call < CALLS; call++) {
            String what = "run " + number + ", call " + call;
            int session = busy && chance(98) ? 0 : random.nextInt(4);
            int tag = model.session(session, 5);
            step(what, session);
            tagsWrapped += model.session(session, 0) == 1 && model.session(session, 5) < tag - 200 ? 1 : 0;
            sameTags += model.holdsSameTag(session) ? 1 : 0;
            compare(what);
        }
        for (int t = 0; t < 3; t++) {
            lost += model.place(t, 2);
        }
    }

    private boolean chance(int percent) {
        return random.nextInt(100) < percent;
    }

    private void step(String what, int session) {
        if (random.nextInt(200) == 0) {
            oddCall(what);
        } else if (model.session(session, 0) == BrokerDesk.SHUT) {
            pending.get(session).clear();
            Check.due(what + ": open", desk.open(session), model.open(session));
        } else if (random.nextInt(model.session(session, 0) != BrokerDesk.OPEN ? 3 : busy ? 5000 : 300) == 0) {
            Check.due(what + ": shut", desk.shut(session), model.shut(session));
        } else if (busy && session == 0 ? model.session(0, 1) > 120 : chance(drains)) {
            int n = busy || chance(70) ? 7 : random.nextInt(9);
            Check.due(what + ": take", desk.take(session, n), model.take(session, n));
        } else {
            feed(what, session);
        }
    }

    private void oddCall(String what) {
        int[] odd = {-1, 4, 5, 6, 7, 8, 9, 16, 17, 64, Integer.MIN_VALUE, Integer.MAX_VALUE};
        int a = odd[random.nextInt(odd.length)];
        int b = odd[random.nextInt(odd.length)];
        long l = random.nextLong();
        Check.due(what + ": open", desk.open(a), model.open(a));
        Check.due(what + ": shut", desk.shut(a), model.shut(a));
        Check.due(what + ": feed", desk.feed(a, l, b), model.feed(a, l, b));
        Check.due(what + ": take", desk.take(a, b), model.take(a, b));
        Check.due(what + ": output", desk.output(a, b), model.output(a, b));
        Check.due(what + ": past", desk.past(a, b), model.past(a, b));
        Check.due(what + ": session", desk.session(a, b), model.session(a, b));
        Check.due(what + ": subscription", desk.subscription(a, b, 0), model.subscription(a, b, 0));
        Check.due(what + ": subscription", desk.subscription(0, b, a), model.subscription(0, b, a));
        Check.due(what + ": place", desk.place(a, b), model.place(a, b));
        Check.due(what + ": item", desk.item(a, b, 0), model.item(a, b, 0));
        Check.due(what + ": item", desk.item(0, a, b), model.item(0, a, b));
        Check.due(what + ": ready", desk.ready(a, b), model.ready(a, b));
        Check.due(what + ": shortest", desk.shortest(a, b), model.shortest(a, b));
    }

    private void feed(String what, int session) {
        Deque<Integer> bytes = pending.get(session);
        if (bytes.isEmpty()) {
            List<Integer> command = command(session);
            if (random.nextInt(1000) < 3 * faults) {
                addMessage(bytes, hugeMessage(), true);
            } else if (chance(packs)) {
                addMessage(bytes, pack(session, command), true);
            } else {
                addMessage(bytes, command, false);
            }
        }
        int n = busy || chance(80) ? 8 : 1 + random.nextInt(8);
        if (bytes.size() < n && chance(50)) {
            // What stands in the model may be another thing when this one comes to its end.
            addMessage(bytes, steadyCommand(session), false);
        }
        n = Math.min(n, bytes.size());
        long all = n == 8 ? 0 : random.nextLong() << (8 * n);
        for (int k = 0; k < n; k++) {
            int b = bytes.remove();
            if (random.nextInt(100) < faults && random.nextInt(8) == 0) {
                b = random.nextInt(256);
            }
            all |= (long) b << (8 * k);
        }
        Check.due(what + ": feed", desk.feed(session, all, n), model.feed(session, all, n));
        if (model.session(session, 0) != BrokerDesk.OPEN) {
            bytes.clear();
            faultsMet[model.session(session, 3)]++;
        }
    }

    private void compare(String what) {
        for (int session = 0; session < 4; session++) {
            for (int k = 0; k < 8; k++) {
                Check.due(what + ": session " + session + " " + k, desk.session(session, k), model.session(session, k));
            }
            int size = model.session(session, 1);
            fullOutputs += size > 234 ? 1 : 0;
            for (int k = 0; k <= size; k++) {
                Check.due(what + ": output " + session + " " + k, desk.output(session, k), model.output(session, k));
            }
            for (int k = 0; k <= 64; k++) {
                Check.due(what + ": past " + session + " " + k, desk.past(session, k), model.past(session, k));
            }
            for (int s = 0; s < 4; s++) {
                for (int k = 0; k < 5; k++) {
                    Check.due(what + ": subscription " + session + " " + s + " " + k,
                        desk.subscription(session, s, k), model.subscription(session, s, k));
                }
            }
        }
        for (int t = 0; t < 6; t++) {
            for (int k = 0; k < 5; k++) {
                Check.due(what + ": place " + t + " " + k, desk.place(t, k), model.place(t, k));
            }
            fullQueues += model.place(t, 0) == 8 ? 1 : 0;
            for (int i = 0; i <= model.place(t, 0); i++) {
                for (int k = 0; k <= 16; k++) {
                    Check.due(what + ": item " + t + " " + i + " " + k, desk.item(t, i, k), model.item(t, i, k));
                }
            }
            int n = 1 + random.nextInt(16);
            Check.due(what + ": ready " + t + " " + n, desk.ready(t, n), model.ready(t, n));
        }
        if (random.nextInt(50) == 0) {
            int session = random.nextInt(4);
            int n = random.nextInt(66);
            Check.due(what + ": shortest " + session + " " + n, desk.shortest(session, n), model.shortest(session, n));
        }
    }

    // ---- what comes in ----

    private void addMessage(Deque<Integer> bytes, List<Integer> command, boolean packed) {
        int from = 0;
        boolean first = true;
        boolean last = false;
        while (!last) {
            if (chance(busy ? 1 : 4)) {
                addFrame(bytes, 128 + (random.nextInt(60) == 0 ? 8 : 9 + random.nextInt(2)), random(random.nextInt(17)));
            }
            int to = chance(85) ? command.size() : from + random.nextInt(command.size() - from + 1);
            last = to == command.size() && chance(90);
            int head = (last ? 128 : 0) + (first ? 1 + (packed ? 64 : 0) : 0);
            addFrame(bytes, head, command.subList(from, to));
            first = false;
            from = to;
        }
    }

    private List<Integer> random(int n) {
        List<Integer> row = new ArrayList<>();
        for (int k = 0; k < n; k++) {
            row.add(chance(60) ? random.nextInt(4) : random.nextInt(256));
        }
        return row;
    }

    private void addFrame(Deque<Integer> bytes, int head, List<Integer> data) {
        int n = data.size();
        bytes.add(head);
        if (n < 126) {
            bytes.add(128 + n);
        } else {
            bytes.add(128 + 126);
            bytes.add(n / 256);
            bytes.add(n % 256);
        }
        int[] mask = new int[4];
        for (int k = 0; k < 4; k++) {
            mask[k] = random.nextInt(256);
            bytes.add(mask[k]);
        }
        for (int k = 0; k < n; k++) {
            bytes.add(data.get(k) ^ mask[k % 4]);
        }
    }

    /** Unpacked, it is about as long as a message may be. */
    private List<Integer> hugeMessage() {
        List<Integer> row = new ArrayList<>(List.of(0, random.nextInt(256)));
        for (int k = 0; k < 6; k++) {
            row.addAll(List.of(159, 0));
        }
        row.addAll(random.nextInt(2) == 0 ? List.of(0, 1) : List.of(126 + 2 + random.nextInt(4), random.nextInt(256)));
        return row;
    }

    private int somePlace() {
        if (busy) {
            return chance(97) ? 3 : 0;
        }
        return places == 0 ? random.nextInt(6) : places == 1 ? random.nextInt(2) : chance(70) ? 3 : random.nextInt(6);
    }

    /** Mostly one that is as said, by what stands in the model now. */
    private List<Integer> command(int session) {
        List<Integer> row = new ArrayList<>();
        int begun = model.session(session, 7);
        if (random.nextInt(1000) < 3 * faults) {
            return random(chance(80) ? random.nextInt(7) : random.nextInt(201));
        }
        int free = -1;
        for (int s = 3; s >= 0; s--) {
            if (model.subscription(session, s, 0) < 0 && chance(70)) {
                free = s;
            }
        }
        int roll = random.nextInt(100);
        if (busy && chance(90)) {
            roll = free >= 0 ? 0 : 74;
        }
        if (free >= 0 && roll < 40) {
            row.addAll(List.of(1, free, somePlace(), someMode(), 1 + random.nextInt(5)));
        } else if (roll < 75) {
            row.addAll(List.of(3, somePlace(), someTransaction(session)));
            row.addAll(random(someLength()));
        } else if (roll < 90) {
            row.addAll(List.of(chance(50) ? 4 : 5, someTag(session), someTransaction(session)));
        } else if (roll < 95) {
            int x = 1 + random.nextInt(2);
            boolean has = (begun & x) != 0;
            row.addAll(List.of(!has ? 6 : chance(75) ? 7 : 8, x));
        } else if (roll < 97) {
            row.addAll(List.of(9, random.nextInt(256)));
        } else {
            int s = random.nextInt(4);
            row.addAll(model.subscription(session, s, 0) < 0 ? List.of(9, s) : List.of(2, s));
        }
        return row;
    }

    private List<Integer> steadyCommand(int session) {
        List<Integer> row = new ArrayList<>();
        if (chance(80)) {
            row.addAll(List.of(3, somePlace(), 0));
            row.addAll(random(someLength()));
        } else {
            row.addAll(List.of(4, someTag(session), 0));
        }
        return row;
    }

    private int someLength() {
        return busy ? 1 : chance(90) ? 1 + random.nextInt(3) : 1 + random.nextInt(16);
    }

    private int someMode() {
        return busy && chance(50) ? 0 : random.nextInt(3);
    }

    private int someTransaction(int session) {
        int begun = model.session(session, 7);
        boolean room = faults == 5 || model.session(session, 6) < 6;
        return begun == 0 || !room || chance(30) ? 0 : begun == 3 ? 1 + random.nextInt(2) : begun;
    }

    private int someTag(int session) {
        int next = model.session(session, 5);
        int oldest = model.subscription(session, random.nextInt(4), 4);
        int tag = chance(40) && oldest >= 0 ? oldest : next - 1 - random.nextInt(8);
        return chance(95) ? tag & 255 : random.nextInt(256);
    }

    /** Copies where the past as it stands now has the bytes; others follow as they are. */
    private List<Integer> pack(int session, List<Integer> plain) {
        List<Integer> all = new ArrayList<>();
        for (int k = 63; k >= 0; k--) {
            if (model.past(session, k) >= 0) {
                all.add(model.past(session, k));
            }
        }
        List<Integer> packed = new ArrayList<>();
        int at = 0;
        while (at < plain.size()) {
            int best = 0;
            int distance = 0;
            for (int d = 1; d <= all.size(); d++) {
                int n = 0;
                while (n < 33 && at + n < plain.size()
                    && plain.get(at + n).equals(n < d ? all.get(all.size() - d + n) : plain.get(at + n - d))) {
                    n++;
                }
                if (n > best) {
                    best = n;
                    distance = d;
                }
            }
            int n = best >= 2 && chance(90) ? best : 1 + random.nextInt(Math.min(128, plain.size() - at));
            if (n == best && best >= 2 && chance(95)) {
                packed.addAll(List.of(126 + n, distance - 1));
            } else {
                packed.add(n - 1);
                packed.addAll(plain.subList(at, at + n));
            }
            all.addAll(plain.subList(at, at + n));
            at += n;
        }
        return packed;
    }
}
