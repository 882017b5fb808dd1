import java.math.BigInteger;

/** Promise 6: accept. */
final class AcceptTest {
    private static final Check CHECK = new Check();

    public static void main(String[] args) {
        accepts(Examples.little());
        accepts(Examples.great());
        accepts(Examples.of(5, 2, 3, 5, 1, 3, 15));
        faultOfN();
        faultOfY();
        faultOfS();
        orderOfFaults();
        theLeastN();
        clientHashesWhatItSent();
        badNumbers();
        notTheNextStep();
        CHECK.end();
    }

    private static void accepts(BigInteger[] numbers) {
        Pair pair = new Pair(CHECK, "accepts").tell(numbers);
        pair.offer();
        pair.answer();
        CHECK.due("accept", pair.accept(), 1);
        CHECK.due("state", pair.real.state(), 3);
        pair.compare();
        for (int i = 0; i < 16; i++) {
            CHECK.due("both have the same", pair.real.key(0, i), pair.real.key(1, i));
        }
    }

    private static void faultOfN() {
        for (int i = 0; i < 8; i++) {
            KeyMeeting m = Examples.answered(Examples.great());
            m.alter(1, i, 1 << 4 * i);
            CHECK.due("N altered", m.accept(), -2);
            CHECK.due("state", m.state(), -2);
            KeyMeeting other = Examples.answered(Examples.great());
            other.number(6, i, Big.word(Examples.N, i) ^ 1);
            CHECK.due("another is trusted", other.accept(), -2);
        }
    }

    private static void faultOfY() {
        int[] came = {0, 1, 22, 23, -1};
        for (int y : came) {
            KeyMeeting m = Examples.answered(Examples.little());
            m.alter(2, 7, 19 ^ y);
            CHECK.due("Y is " + y, m.accept(), -1);
            CHECK.due("state", m.state(), -1);
        }
        KeyMeeting high = Examples.answered(Examples.little());
        high.alter(2, 0, Integer.MIN_VALUE);
        CHECK.due("a great Y", high.accept(), -1);
    }

    private static void faultOfS() {
        for (int i = 0; i < 8; i++) {
            KeyMeeting m = Examples.answered(Examples.great());
            m.alter(3, i, 1);
            CHECK.due("S altered", m.accept(), -3);
            CHECK.due("state", m.state(), -3);
        }
        KeyMeeting same = Examples.answered(Examples.little());
        BigInteger s = Big.sent(same, 3);
        same.alter(3, 7, s.intValue() ^ s.add(Big.of(55)).intValue());
        CHECK.due("S + N has the same power, but is not below N", same.accept(), -3);
        KeyMeeting secret = Examples.answered(Examples.great());
        secret.number(4, 7, 1);
        CHECK.due("another x", secret.accept(), -3);
    }

    private static void orderOfFaults() {
        KeyMeeting all = Examples.answered(Examples.little());
        all.alter(1, 7, 1);
        all.alter(2, 0, 1);
        all.alter(3, 0, 1);
        CHECK.due("N first", all.accept(), -2);
        KeyMeeting two = Examples.answered(Examples.little());
        two.alter(2, 0, 1);
        two.alter(3, 0, 1);
        CHECK.due("Y before S", two.accept(), -1);
    }

    private static void theLeastN() {
        int[] came = {0, 1, 2};
        for (int n : came) {
            for (int s = 0; s < 3; s++) {
                Pair pair = new Pair(CHECK, "N is " + n + ", S is " + s).tell(Examples.little());
                pair.small(6, n);
                pair.offer();
                pair.answer();
                pair.alter(1, 7, 55 ^ n);
                pair.alter(3, 7, pair.real.sent(3, 7) ^ s);
                pair.accept();
                pair.compare();
            }
        }
        KeyMeeting one = Examples.answered(Examples.of(23, 5, 5, 11, 6, 15, 1));
        one.alter(1, 7, 55 ^ 1);
        one.alter(3, 7, one.sent(3, 7));
        CHECK.due("S is 0 modulo 1", one.accept(), 1);
    }

    /** With a small N an altered X may pass; each side's keys then are by its own K and hash. */
    private static void clientHashesWhatItSent() {
        int passed = 0;
        for (int y = 3; y <= 7; y++) {
            for (int x = 2; x <= 21; x++) {
                passed += passesWithOtherKeys(x, y) ? 1 : 0;
            }
        }
        CHECK.due("some altered X passes", passed > 0 ? 1 : 0, 1);
        KeyMeeting great = Examples.offered(Examples.great());
        great.alter(0, 7, 1);
        great.answer();
        CHECK.due("X altered", great.accept(), -3);
    }

    private static boolean passesWithOtherKeys(int x, int y) {
        Pair pair = new Pair(CHECK, "X came as " + x).tell(Examples.of(23, 5, 3, 3, 6, y, 9));
        pair.offer();
        pair.alter(0, 7, 8 ^ x);
        pair.answer();
        boolean agreed = pair.accept() == 1;
        pair.compare();
        return agreed && pair.real.key(0, 0) != pair.real.key(1, 0);
    }

    private static void badNumbers() {
        long[][] bad = {{0, 4}, {1, 1}, {1, 22}, {2, 2}, {3, 0}, {2, 65538}, {3, 65538}};
        for (long[] change : bad) {
            Pair pair = new Pair(CHECK, "bad " + change[0] + " " + change[1]).tell(Examples.little());
            pair.offer();
            pair.answer();
            pair.alter(1, 7, 64);
            pair.small(6, 55 ^ 64);
            pair.small((int) change[0], change[1]);
            CHECK.due("accept", pair.accept(), KeyMeeting.BAD);
            CHECK.due("state", pair.real.state(), 2);
            pair.compare();
            pair.alter(1, 7, 64);
            pair.small(6, 55);
            pair.small((int) change[0], Examples.little()[(int) change[0]].longValue());
            pair.accept();
            pair.compare();
        }
        KeyMeeting m = Examples.answered(Examples.of(23, 5, 5, 11, 6, 15, 54));
        m.small(2, 2);
        CHECK.due("BAD goes before the fault", m.accept(), KeyMeeting.BAD);
    }

    private static void notTheNextStep() {
        KeyMeeting begun = Examples.told(Examples.little());
        CHECK.due("accept before offer", begun.accept(), KeyMeeting.STATE);
        KeyMeeting offered = Examples.offered(Examples.little());
        CHECK.due("accept before answer", offered.accept(), KeyMeeting.STATE);
        CHECK.due("state", offered.state(), 1);
        KeyMeeting agreed = Examples.agreed(Examples.little());
        agreed.small(0, 0);
        CHECK.due("accept behind accept", agreed.accept(), KeyMeeting.STATE);
        CHECK.due("state", agreed.state(), 3);
        KeyMeeting over = Examples.agreed(Examples.of(23, 5, 5, 11, 6, 15, 54));
        CHECK.due("accept when it is over", over.accept(), KeyMeeting.STATE);
        CHECK.due("state", over.state(), -2);
        CHECK.due("accept of nothing", new KeyMeeting().accept(), KeyMeeting.STATE);
    }
}
