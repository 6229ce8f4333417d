import java.util.Random;
import java.util.function.ToLongFunction;

/**
 * "An object is used for at most 512 calls after it has been made": the 512th is answered as promised, what is
 * counted has no bound that 512 calls reach, and later ones, whose answers are free, end all the same.
 */
public final class LimitTest {
    public static void main(String[] args) {
        commandsCounted();
        lostCounted();
        givenCounted();
        opened511Times();
        lastCallOfEachKind();
        laterCallsEnd();
        Check.end();
    }

    /** A session and 510 COMMANDS, one with each call. */
    private static BrokerDesk with511Calls() {
        BrokerDesk desk = new BrokerDesk();
        desk.open(3);
        for (int k = 0; k < 510; k++) {
            desk.feed(3, 0x0009_0000_0000_8281L | (long) (k & 255) << 56, 8);
        }
        return desk;
    }

    private static void commandsCounted() {
        Check.due("the 512th call: COMMANDS", with511Calls().session(3, 4), 510);
        Check.due("the 512th call: state", with511Calls().session(3, 0), BrokerDesk.OPEN);
        Check.due("the 512th call: bytes", with511Calls().session(3, 1), 240);
        Check.due("the 512th call: the latest byte of the PAST", with511Calls().past(3, 0), 509 & 255);
        Check.due("the 512th call: the oldest one of the PAST", with511Calls().past(3, 63), 9);
        Check.due("the 512th call: no more of the PAST", with511Calls().past(3, 64), -1);
        Check.due("the 512th call: the OUTPUT is full since the 60th", with511Calls().output(3, 239), 59);
    }

    /** What is fed, eight bytes with each call, until 511 calls are made; then the question. */
    private static long after(int[] row, ToLongFunction<BrokerDesk> ask) {
        BrokerDesk desk = new BrokerDesk();
        desk.open(0);
        int calls = 1;
        for (int at = 0; at + 8 <= row.length && calls < 511; at += 8) {
            long bytes = 0;
            for (int k = 0; k < 8; k++) {
                bytes |= (long) row[at + k] << (8 * k);
            }
            desk.feed(0, bytes, 8);
            calls++;
        }
        Check.due("calls", calls, 511);
        return ask.applyAsLong(desk);
    }

    private static int[] many(int times, int... frame) {
        int[] row = new int[times * frame.length];
        for (int k = 0; k < row.length; k++) {
            row[k] = frame[k % frame.length];
        }
        return row;
    }

    /** 510 calls bring 408 ITEMS: 8 are there, and the count of those that are LOST does not go round. */
    private static void lostCounted() {
        int[] row = many(409, Wire.frame(129, 3, 1, 0, 5));
        Check.due("LOST", after(row, desk -> desk.place(1, 2)), 400);
        Check.due("there", after(row, desk -> desk.place(1, 0)), 8);
        Check.due("COMMANDS", after(row, desk -> desk.session(0, 4)), 408);
    }

    /** More than 255 are GIVEN: the count goes on, though the TAG begins again. */
    private static void givenCounted() {
        BrokerDesk desk = Wire.opened(1);
        int calls = 1;
        for (int s = 0; s < 4; s++) {
            Wire.tell(desk, 0, 1, s, 3, 0, 1);
            calls += 2;
        }
        int given = 0;
        // Four times four messages of six bytes are 96; 5 calls bring the sending, 14 take what is written.
        while (calls + 19 <= 500) {
            Wire.feed(desk, 0, many(4, Wire.frame(129, 3, 3, 0, 5)));
            given += 16;
            for (int k = 0; k < 14; k++) {
                desk.take(0, k < 13 ? 7 : 5);
            }
            calls += 19;
        }
        Check.due("more than 255", given > 255, true);
        Check.due("GIVEN", desk.place(3, 1), given);
        Check.due("next TAG", desk.session(0, 5), given - 256);
        Check.due("nothing is left", desk.session(0, 1), 0);
    }

    private static void opened511Times() {
        BrokerDesk desk = new BrokerDesk();
        for (int k = 0; k < 511; k++) {
            Check.due("call " + k, k % 2 == 0 ? desk.open(2) : desk.shut(2), true);
        }
        Check.due("the 512th call: shut", desk.shut(2) ? 1 : 0, 1);
    }

    private static void lastCallOfEachKind() {
        Check.due("the 512th call: open", with511Calls().open(0) ? 1 : 0, 1);
        Check.due("the 512th call: open of an OPEN one", with511Calls().open(3) ? 1 : 0, 0);
        Check.due("the 512th call: shut", with511Calls().shut(3) ? 1 : 0, 1);
        Check.due("the 512th call: feed", with511Calls().feed(3, -1L, 8), 1);
        Check.due("the 512th call: take", with511Calls().take(3, 4), 129 + (2 << 8) + (9 << 16));
        Check.due("the 512th call: subscription", with511Calls().subscription(3, 0, 0), -1);
        Check.due("the 512th call: place", with511Calls().place(0, 3), -1);
        Check.due("the 512th call: item", with511Calls().item(0, 0, 0), -1);
        Check.due("the 512th call: ready", with511Calls().ready(0, 1), 0);
        Check.due("the 512th call: shortest", with511Calls().shortest(3, 1), 2);
    }

    /** Beyond the limit answers are free, but LANGUAGE.md 7 holds: each call ends, and none throws. */
    private static void laterCallsEnd() {
        Random random = new Random(512);
        BrokerDesk desk = new BrokerDesk();
        int rounds = 0;
        while (rounds < 40_000) {
            int a = odd(random);
            int b = odd(random);
            int c = odd(random);
            desk.open(a);
            desk.feed(a, random.nextLong(), b);
            desk.feed(b & 3, random.nextLong(), c);
            Wire.tell(desk, random.nextInt(4), command(random));
            desk.take(a, b);
            desk.take(b & 3, 7);
            desk.output(a, b);
            desk.past(a, b);
            desk.session(a, b);
            desk.subscription(a, b, c);
            desk.place(a, b);
            desk.item(a, b, c);
            desk.ready(a, b);
            desk.shortest(a, b);
            if (random.nextInt(20) == 0) {
                desk.shut(b);
            }
            rounds++;
        }
        Check.due("all of them ended", rounds, 40_000);
    }

    private static int odd(Random random) {
        switch (random.nextInt(8)) {
            case 0:
                return random.nextInt();
            case 1:
                return Integer.MIN_VALUE + random.nextInt(2);
            case 2:
                return Integer.MAX_VALUE - random.nextInt(2);
            case 3:
                return random.nextInt(300) - 20;
            default:
                return random.nextInt(9) - 1;
        }
    }

    private static int[] command(Random random) {
        int[] row = new int[random.nextInt(21)];
        for (int k = 0; k < row.length; k++) {
            row[k] = k == 0 ? random.nextInt(10) : random.nextInt(random.nextInt(4) == 0 ? 256 : 4);
        }
        return row;
    }
}
