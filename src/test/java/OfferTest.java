import java.math.BigInteger;

/** Promise 4: offer, and OFFER in the terms. */
final class OfferTest {
    private static final Check CHECK = new Check();

    public static void main(String[] args) {
        sendsThePower();
        leastGroup();
        generatorsInEveryGroup();
        hostAtItsLeast();
        thereMustBeAD();
        badChangesNothing();
        goodNumbersAtTheirEdges();
        offerAnew();
        CHECK.end();
    }

    /** "X = G^x modulo P goes on the way": also when x is 0, or when X is 0 or 1. */
    private static void sendsThePower() {
        offerSends(Examples.little(), Big.of(8));
        offerSends(Examples.great(), Big.of(5).modPow(Examples.X, Big.P256));
        BigInteger even = Big.MAX.subtract(Big.ONE);
        offerSends(new BigInteger[] {even, Big.TWO, Big.of(3), Big.of(3), Big.MAX}, Big.TWO.modPow(Big.MAX, even));
        offerSends(Examples.of(23, 5, 5, 11, 0), Big.ONE);
        offerSends(Examples.of(23, 5, 5, 11, 1), Big.of(5));
        offerSends(Examples.of(23, 5, 5, 11, 11), Big.of(22));
        offerSends(Examples.of(8, 2, 5, 11, 3), Big.ZERO);
    }

    private static void offerSends(BigInteger[] numbers, BigInteger x) {
        KeyMeeting m = Examples.told(numbers);
        CHECK.due("offer", m.offer(), 1);
        CHECK.due("state", m.state(), 1);
        Big.due(CHECK, "X", Big.sent(m, 0), x);
        Big.due(CHECK, "N", Big.sent(m, 1), Big.ZERO);
        Big.due(CHECK, "Y", Big.sent(m, 2), Big.ZERO);
        Big.due(CHECK, "S", Big.sent(m, 3), Big.ZERO);
        CHECK.due("X is on the way", m.alter(0, 7, 1), 1);
    }

    /** "P must be 5 at least": 2 would be from 2 to P - 2 when P is 4 already. */
    private static void leastGroup() {
        for (int group = 0; group <= 8; group++) {
            KeyMeeting m = Examples.told(Examples.of(group, 2, 5, 11, 1));
            CHECK.due("offer in the group " + group, m.offer(), group >= 5 ? 1 : KeyMeeting.BAD);
        }
        for (int i = 0; i < 7; i++) {
            KeyMeeting m = Examples.told(Examples.of(0, 2, 5, 11, 1));
            m.number(0, i, 1);
            CHECK.due("offer in a group of word " + i + " alone", m.offer(), 1);
            KeyMeeting high = Examples.told(Examples.of(4, 2, 5, 11, 1));
            high.number(0, i, Integer.MIN_VALUE);
            CHECK.due("offer in a group with a high word " + i, high.offer(), 1);
        }
    }

    /** "G from 2 to P - 2" */
    private static void generatorsInEveryGroup() {
        for (BigInteger group : Big.GROUPS) {
            for (BigInteger g : Big.aroundTheRange(group)) {
                KeyMeeting m = Examples.told(group, g, Big.of(5), Big.of(11), Big.ONE);
                boolean fit = Big.isFrom2ToPMinus2(g, group);
                CHECK.due("offer of " + g + " modulo " + group, m.offer(), fit ? 1 : KeyMeeting.BAD);
                CHECK.due("state", m.state(), fit ? 1 : 0);
                Big.due(CHECK, "X", Big.sent(m, 0), fit ? g : Big.ZERO);
            }
        }
    }

    /** "p and q 3 at least" */
    private static void hostAtItsLeast() {
        for (int p = 0; p <= 5; p++) {
            for (int q = 0; q <= 5; q++) {
                KeyMeeting m = Examples.told(Examples.of(23, 5, p, q, 6));
                CHECK.due("offer with " + p + " and " + q, m.offer(), p >= 3 && q >= 3 ? 1 : KeyMeeting.BAD);
            }
        }
    }

    /** "and there must be a D": there is none just when E, a prime, divides p - 1 or q - 1. */
    private static void thereMustBeAD() {
        for (long times = 1; times < 200000000000000L; times = 7 * times + 1) {
            for (int near = -1; near <= 1; near++) {
                long p = 65537 * times + 1 + near;
                int due = near == 0 ? KeyMeeting.BAD : 1;
                CHECK.due("offer with p = " + p, Examples.told(Examples.of(23, 5, p, 11)).offer(), due);
                CHECK.due("offer with q = " + p, Examples.told(Examples.of(23, 5, 11, p)).offer(), due);
            }
        }
        CHECK.due("offer without D for both", Examples.told(Examples.of(23, 5, 65538, 131075)).offer(), KeyMeeting.BAD);
        CHECK.due("p = E", Examples.told(Examples.of(23, 5, 65537, 65537)).offer(), 1);
    }

    /** "BAD when the numbers are not as they must be (nothing changes)" */
    private static void badChangesNothing() {
        for (BigInteger[] change : BadNumbers.bad()) {
            String name = "number " + change[0] + " is " + change[1];
            KeyMeeting m = Stage.BEGUN.make();
            int what = change[0].intValue();
            Big.tell(m, what, change[1]);
            String before = Seen.of(m);
            CHECK.due(name + ": offer", m.offer(), KeyMeeting.BAD);
            CHECK.due(name, Seen.of(m), before);
            CHECK.due(name + ": answer", m.answer(), KeyMeeting.STATE);
            CHECK.due(name + ": alter", m.alter(0, 7, 1), 0);
            Big.tell(m, what, Examples.little()[what]);
            CHECK.due(name + ": offer when mended", m.offer(), 1);
            CHECK.due(name + ": X", m.sent(0, 7), 8);
        }
    }

    private static void goodNumbersAtTheirEdges() {
        for (BigInteger[] change : BadNumbers.good()) {
            Pair pair = new Pair(CHECK, "number " + change[0] + " is " + change[1]).tell(Examples.little());
            pair.number(change[0].intValue(), change[1]);
            CHECK.due("offer when " + change[0] + " is " + change[1], pair.offer(), 1);
            pair.compare();
        }
    }

    /** A bad offer behind a meeting changes nothing either, a good one sends X anew. */
    private static void offerAnew() {
        KeyMeeting m = Stage.AGREED.make();
        m.begin();
        m.small(0, 4);
        String before = Seen.of(m);
        CHECK.due("bad offer", m.offer(), KeyMeeting.BAD);
        CHECK.due("bad offer", Seen.of(m), before);
        m.small(0, 23);
        m.small(4, 1);
        CHECK.due("offer", m.offer(), 1);
        CHECK.due("X", m.sent(0, 7), 5);
        CHECK.due("state", m.state(), 1);
    }
}
