import java.util.ArrayList;
import java.util.List;
import java.util.function.Consumer;

/**
 * All that can be asked of a desk. It is asked of several desks that were treated alike, a part of it each,
 * since an object is used for at most 512 calls.
 */
final class State {
    private State() { }

    static List<Integer> after(Consumer<BrokerDesk> run) {
        List<Integer> all = new ArrayList<>();
        for (int session = 0; session < 4; session++) {
            askOutput(made(run), session, all);
            askSession(made(run), session, all);
        }
        for (int t = 0; t < 3; t++) {
            askItems(made(run), t, all);
        }
        askPlaces(made(run), all);
        return all;
    }

    /** With the call or without it: the same at once, and the same when it goes on. */
    static void dueUnchanged(String what, Consumer<BrokerDesk> before, Consumer<BrokerDesk> call,
            Consumer<BrokerDesk> later) {
        Consumer<BrokerDesk> with = before.andThen(call);
        Check.due(what + ": changes nothing", after(with).equals(after(before)), true);
        Check.due(what + ": changes nothing later",
            after(with.andThen(later)).equals(after(before.andThen(later))), true);
    }

    private static BrokerDesk made(Consumer<BrokerDesk> run) {
        BrokerDesk desk = new BrokerDesk();
        run.accept(desk);
        return desk;
    }

    private static void askOutput(BrokerDesk desk, int session, List<Integer> all) {
        for (int k = 0; k <= 240; k++) {
            all.add(desk.output(session, k));
        }
    }

    private static void askSession(BrokerDesk desk, int session, List<Integer> all) {
        for (int what = 0; what < 8; what++) {
            all.add(desk.session(session, what));
        }
        for (int k = 0; k <= 64; k++) {
            all.add(desk.past(session, k));
            all.add(desk.shortest(session, k + 1));
        }
        for (int s = 0; s < 4; s++) {
            for (int what = 0; what < 5; what++) {
                all.add(desk.subscription(session, s, what));
            }
        }
    }

    private static void askItems(BrokerDesk desk, int t, List<Integer> all) {
        for (int i = 0; i <= 8; i++) {
            for (int k = 0; k <= 16; k++) {
                all.add(desk.item(t, i, k));
            }
        }
    }

    private static void askPlaces(BrokerDesk desk, List<Integer> all) {
        for (int t = 0; t < 6; t++) {
            for (int what = 0; what < 5; what++) {
                all.add(desk.place(t, what));
            }
            for (int n = 1; n <= 16; n++) {
                all.add(desk.ready(t, n));
            }
        }
    }
}
