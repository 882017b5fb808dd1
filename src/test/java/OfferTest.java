import java.math.BigInteger;

/** Promise 4: offer. */
final class OfferTest {
    private static final Check CHECK = new Check();

    public static void main(String[] args) {
        sendsThePower();
        badNumbers();
        edgesOfGoodNumbers();
        notTheNextStep();
        stateIsLookedAtFirst();
        CHECK.end();
    }

    private static void sendsThePower() {
        offerSends(Examples.little(), Big.of(8));
        offerSends(Examples.great(), Big.of(5).modPow(Examples.X, Big.P256));
        BigInteger even = Big.MAX.subtract(Big.ONE);
        offerSends(new BigInteger[] {even, Big.TWO, Big.of(3), Big.of(3), Big.MAX}, Big.TWO.modPow(Big.MAX, even));
        offerSends(Examples.of(23, 5, 5, 11, 0), Big.ONE);
        offerSends(Examples.of(8, 2, 5, 11, 3), Big.ZERO);
    }

    private static void offerSends(BigInteger[] numbers, BigInteger x) {
        KeyMeeting m = Examples.told(numbers);
        CHECK.due("offer", m.offer(), 1);
        CHECK.due("state", m.state(), 1);
        Big.due(CHECK, "X", Big.sent(m, 0), x);
        Big.due(CHECK, "N", Big.sent(m, 1), Big.ZERO);
        Big.due(CHECK, "Y", Big.sent(m, 2), Big.ZERO);
        Big.due(CHECK, "S", Big.sent(m, 3), Big.ZERO);
    }

    private static void badNumbers() {
        long[][] bad = {
            {4, 2, 5, 11}, {0, 2, 5, 11}, {1, 2, 5, 11}, {2, 2, 5, 11}, {3, 2, 5, 11},
            {23, 0, 5, 11}, {23, 1, 5, 11}, {23, 22, 5, 11}, {23, 23, 5, 11}, {23, 24, 5, 11},
            {5, 4, 5, 11}, {5, 1, 5, 11}, {23, 5, 2, 11}, {23, 5, 5, 2}, {23, 5, 0, 11}, {23, 5, 5, 0},
            {23, 5, 65538, 11}, {23, 5, 5, 65538}, {23, 5, 131075, 131075}, {23, 5, 5, 1 + 65537L * 65537L},
        };
        for (long[] numbers : bad) {
            KeyMeeting m = Examples.told(Examples.of(numbers));
            CHECK.due("offer of " + java.util.Arrays.toString(numbers), m.offer(), KeyMeeting.BAD);
            CHECK.due("state", m.state(), 0);
            CHECK.due("X", m.sent(0, 7), 0);
            CHECK.due("answer", m.answer(), KeyMeeting.STATE);
        }
        KeyMeeting m = Examples.told(Big.MAX, Big.MAX.subtract(Big.ONE), Big.of(5), Big.of(11));
        CHECK.due("G is P - 1", m.offer(), KeyMeeting.BAD);
        Big.tell(m, 1, Big.MAX);
        CHECK.due("G is P", m.offer(), KeyMeeting.BAD);
    }

    private static void edgesOfGoodNumbers() {
        long[][] good = {
            {5, 2, 5, 11}, {5, 3, 5, 11}, {6, 4, 5, 11}, {23, 2, 5, 11}, {23, 21, 5, 11}, {23, 5, 3, 11},
            {23, 5, 5, 3}, {23, 5, 3, 3}, {23, 5, 4, 4}, {23, 5, 65537, 65539}, {0x100000001L, 0xffffffffL, 3, 3},
        };
        for (long[] numbers : good) {
            KeyMeeting m = Examples.told(Examples.of(numbers));
            CHECK.due("offer of " + java.util.Arrays.toString(numbers), m.offer(), 1);
        }
        KeyMeeting m = Examples.told(Big.MAX, Big.MAX.subtract(Big.TWO), Big.of(5), Big.of(11));
        CHECK.due("G is P - 2", m.offer(), 1);
        KeyMeeting power = Examples.told(Big.TWO.pow(255), Big.TWO.pow(32), Big.of(5), Big.of(11));
        CHECK.due("P is a power of two", power.offer(), 1);
    }

    private static void notTheNextStep() {
        CHECK.due("offer behind offer", Examples.offered(Examples.little()).offer(), KeyMeeting.STATE);
        CHECK.due("offer behind answer", Examples.answered(Examples.little()).offer(), KeyMeeting.STATE);
        CHECK.due("offer behind accept", Examples.agreed(Examples.little()).offer(), KeyMeeting.STATE);
        KeyMeeting over = Examples.answered(Examples.of(23, 5, 5, 11, 0, 15));
        CHECK.due("over", over.state(), -1);
        CHECK.due("offer when it is over", over.offer(), KeyMeeting.STATE);
        CHECK.due("still over", over.state(), -1);
    }

    private static void stateIsLookedAtFirst() {
        KeyMeeting m = Examples.offered(Examples.little());
        m.small(0, 0);
        CHECK.due("offer", m.offer(), KeyMeeting.STATE);
        CHECK.due("X stays", m.sent(0, 7), 8);
    }
}
