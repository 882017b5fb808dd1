import java.math.BigInteger;

/** Numbers of the tests: to and from the words of KeyMeeting. */
final class Big {
    static final BigInteger ZERO = BigInteger.ZERO, ONE = BigInteger.ONE, TWO = BigInteger.TWO;
    static final BigInteger E = BigInteger.valueOf(65537);
    static final BigInteger MAX = TWO.pow(256).subtract(ONE);

    /** Primes just below powers of two. */
    static final BigInteger P256 = TWO.pow(256).subtract(of(189));
    static final BigInteger P255 = TWO.pow(255).subtract(of(19));
    static final BigInteger P128 = TWO.pow(128).subtract(of(159));
    static final BigInteger P127 = TWO.pow(127).subtract(ONE);

    /** Groups at the edges of words: there borrows and signs of words would show. */
    static final BigInteger[] GROUPS = {
        of(5), of(6), of(23), TWO.pow(31), TWO.pow(31).add(TWO), TWO.pow(32).subtract(ONE), TWO.pow(32),
        TWO.pow(32).add(ONE), TWO.pow(32).add(TWO), TWO.pow(32).add(of(3)), TWO.pow(63), TWO.pow(64).add(ONE),
        TWO.pow(96), TWO.pow(128), TWO.pow(160).add(TWO), TWO.pow(192).add(ONE), TWO.pow(224), P255, TWO.pow(255),
        TWO.pow(255).add(ONE), P256, MAX.subtract(ONE), MAX,
    };

    private Big() {
    }

    static BigInteger of(long v) {
        return BigInteger.valueOf(v);
    }

    static int word(BigInteger v, int i) {
        return v.shiftRight(32 * (7 - i)).intValue();
    }

    static BigInteger withWord(BigInteger v, int i, int word) {
        BigInteger change = of((word(v, i) ^ word) & 0xffffffffL);
        return v.xor(change.shiftLeft(32 * (7 - i)));
    }

    static void tell(KeyMeeting m, int what, BigInteger v) {
        for (int i = 0; i < 8; i++) {
            m.number(what, i, word(v, i));
        }
    }

    static void tellAll(KeyMeeting m, BigInteger... numbers) {
        for (int what = 0; what < numbers.length; what++) {
            tell(m, what, numbers[what]);
        }
    }

    static BigInteger sent(KeyMeeting m, int what) {
        BigInteger v = ZERO;
        for (int i = 0; i < 8; i++) {
            v = v.shiftLeft(32).or(of(m.sent(what, i) & 0xffffffffL));
        }
        return v;
    }

    /** Alters what is on the way until it is v. */
    static void makeSent(KeyMeeting m, int what, BigInteger v) {
        for (int i = 0; i < 8; i++) {
            m.alter(what, i, m.sent(what, i) ^ word(v, i));
        }
    }

    static boolean isFrom2ToPMinus2(BigInteger v, BigInteger group) {
        return v.compareTo(TWO) >= 0 && v.compareTo(group.subtract(TWO)) <= 0;
    }

    /** Just inside and just outside of 2 .. P - 2, and the ends of words and of all numbers. */
    static BigInteger[] aroundTheRange(BigInteger group) {
        return new BigInteger[] {
            ZERO, ONE, TWO, of(3), group.subtract(of(3)), group.subtract(TWO), group.subtract(ONE), group,
            group.add(ONE).min(MAX), group.add(TWO).min(MAX), TWO.pow(32), TWO.pow(32).add(TWO), TWO.pow(255), MAX,
        };
    }

    static BigInteger secret(KeyMeeting m) {
        BigInteger v = ZERO;
        for (int i = 0; i < 8; i++) {
            v = v.shiftLeft(32).or(of(m.secret(i) & 0xffffffffL));
        }
        return v;
    }

    static void due(Check check, String call, BigInteger got, BigInteger want) {
        if (!got.equals(want)) {
            check.tell(call + " answered " + got + ", due is " + want);
        }
    }
}
