import java.math.BigInteger;

/** Terms: numbers and words, what is told, N, E, D and powers. */
final class ToldTest {
    private static final Check CHECK = new Check();
    private static final BigInteger HALF = Big.TWO.pow(128);

    public static void main(String[] args) {
        wordNoughtIsTheHighest();
        theGreatestNumbers();
        lowestFourWordsOfTheHostCount();
        onlyHighWordsAreNought();
        theLeastAndTheGreatestN();
        theLeastD();
        powersOfNoughtAndOne();
        CHECK.end();
    }

    /** "eight WORDS of 32 bits, the highest first (word 0)" */
    private static void wordNoughtIsTheHighest() {
        for (int i = 0; i < 8; i++) {
            KeyMeeting m = Examples.told(Big.MAX, Big.of(2), Big.of(5), Big.of(11));
            m.small(1, 0);
            m.number(1, i, 3);
            m.small(4, 1);
            CHECK.due("offer", m.offer(), 1);
            Big.due(CHECK, "word " + i, Big.sent(m, 0), Big.of(3).shiftLeft(32 * (7 - i)));
        }
    }

    /** "NUMBERS have 256 bits" */
    private static void theGreatestNumbers() {
        Pair pair = new Pair(CHECK, "the greatest").tell(Big.MAX, Big.MAX.subtract(Big.TWO), HALF.subtract(Big.ONE),
            HALF.subtract(Big.ONE), Big.MAX, Big.MAX, Big.MAX);
        CHECK.due("offer", pair.offer(), 1);
        CHECK.due("answer", pair.answer(), 1);
        pair.compare();
        pair.makeSent(1, Big.MAX);
        CHECK.due("N is trusted, but did not sign", pair.accept(), -3);
        pair.compare();
    }

    /** "of these the lowest four words count, the others are taken as 0" */
    private static void lowestFourWordsOfTheHostCount() {
        for (int what = 2; what < 4; what++) {
            for (int i = 0; i < 8; i++) {
                KeyMeeting m = Examples.told(Examples.little());
                m.number(what, i, 12);
                BigInteger told = Big.withWord(Big.of(what == 2 ? 5 : 11), i, 12);
                BigInteger n = told.mod(HALF).multiply(Big.of(what == 2 ? 11 : 5));
                CHECK.due("offer and answer", m.offer() + m.answer(), 2);
                Big.due(CHECK, "N when word " + i + " of " + what + " is told", Big.sent(m, 1), n);
            }
        }
    }

    private static void onlyHighWordsAreNought() {
        for (int what = 2; what < 4; what++) {
            for (int low = 0; low < 5; low++) {
                KeyMeeting m = Examples.told(Examples.little());
                m.small(what, low);
                m.number(what, 0, -1);
                m.number(what, 3, -1);
                CHECK.due("offer with a low part of " + low, m.offer(), low >= 3 ? 1 : KeyMeeting.BAD);
            }
            KeyMeeting m = Examples.told(Examples.little());
            m.small(what, 0);
            m.number(what, 4, 2);
            CHECK.due("offer with word 4 alone", m.offer(), 1);
        }
    }

    /** "N is p q" */
    private static void theLeastAndTheGreatestN() {
        nIs(Big.of(3), Big.of(3), Big.of(9));
        nIs(Big.of(3), Big.of(4), Big.of(12));
        BigInteger most = HALF.subtract(Big.ONE);
        nIs(most, most, most.multiply(most));
        nIs(most, Big.of(3), most.multiply(Big.of(3)));
        nIs(Big.TWO.pow(127), Big.TWO.pow(127), Big.TWO.pow(254));
    }

    private static void nIs(BigInteger p, BigInteger q, BigInteger n) {
        KeyMeeting m = Examples.answered(Big.of(23), Big.of(5), p, q, Big.of(6), Big.of(15));
        CHECK.due("state", m.state(), 2);
        Big.due(CHECK, "N of " + p + " and " + q, Big.sent(m, 1), n);
    }

    /** "D is the least number with which E D is 1 modulo (p - 1) (q - 1)": looked for from 0 on. */
    private static void theLeastD() {
        for (int p = 3; p <= 20; p++) {
            for (int q = 3; q <= 20; q++) {
                int modulus = (p - 1) * (q - 1);
                int d = 0;
                while (65537L * d % modulus != 1) {
                    d++;
                }
                KeyMeeting m = Examples.told(Examples.of(0, 0, p, q));
                Big.due(CHECK, "D of " + p + " and " + q, Big.secret(m), Big.of(d));
            }
        }
    }

    /** "a POWER m: a to that power, modulo m": a to the power 0 is 1, also of the least and the greatest a. */
    private static void powersOfNoughtAndOne() {
        for (BigInteger group : Big.GROUPS) {
            for (BigInteger g : new BigInteger[] {Big.TWO, group.subtract(Big.TWO)}) {
                BigInteger[] exponents = {Big.ZERO, Big.ONE, Big.TWO, Big.of(3), Big.MAX};
                for (BigInteger x : exponents) {
                    KeyMeeting m = Examples.offered(group, g, Big.of(5), Big.of(11), x);
                    Big.due(CHECK, g + "^" + x + " modulo " + group, Big.sent(m, 0), g.modPow(x, group));
                }
            }
        }
    }
}
