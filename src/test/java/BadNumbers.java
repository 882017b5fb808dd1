import java.math.BigInteger;

/** Changes of one told number of the little example that OFFER does not want, and ones that it still wants. */
final class BadNumbers {
    private static final BigInteger HALF = Big.TWO.pow(128);

    /** The greatest number below 2^128 of which one less is a multiple of E. */
    static final BigInteger GREATEST_WITHOUT_D =
        HALF.subtract(Big.TWO).divide(Big.E).multiply(Big.E).add(Big.ONE);

    private BadNumbers() {
    }

    /** Each is the number's place and what it is told. */
    static BigInteger[][] bad() {
        return new BigInteger[][] {
            change(0, 0), change(0, 1), change(0, 2), change(0, 3), change(0, 4), change(0, 5), change(0, 6),
            change(1, 0), change(1, 1), change(1, 22), change(1, 23), change(1, 24), {Big.ONE, Big.MAX},
            {Big.ONE, Big.TWO.pow(32).add(Big.of(5))}, {Big.ONE, Big.TWO.pow(255).add(Big.of(5))},
            change(2, 0), change(2, 1), change(2, 2), {Big.TWO, HALF}, {Big.TWO, HALF.add(Big.TWO)},
            change(3, 0), change(3, 1), change(3, 2), {Big.of(3), HALF}, {Big.of(3), HALF.add(Big.TWO)},
            change(2, 65538), change(2, 131075), {Big.TWO, GREATEST_WITHOUT_D},
            change(3, 65538), change(3, 131075), {Big.of(3), GREATEST_WITHOUT_D},
        };
    }

    static BigInteger[][] good() {
        return new BigInteger[][] {
            change(0, 7), change(0, 8), {Big.ZERO, Big.TWO.pow(32)}, {Big.ZERO, Big.TWO.pow(224)}, {Big.ZERO, Big.MAX},
            change(1, 2), change(1, 3), change(1, 20), change(1, 21),
            change(2, 3), change(2, 4), {Big.TWO, HALF.add(Big.of(3))}, {Big.TWO, HALF.subtract(Big.ONE)},
            change(3, 3), change(3, 4), {Big.of(3), HALF.add(Big.of(3))}, {Big.of(3), HALF.subtract(Big.ONE)},
            change(2, 65537), change(2, 65539), {Big.TWO, GREATEST_WITHOUT_D.add(Big.ONE)},
            change(3, 65537), change(3, 65539), {Big.of(3), GREATEST_WITHOUT_D.subtract(Big.ONE)},
            change(4, 0), {Big.of(4), Big.MAX}, change(5, 0), {Big.of(5), Big.MAX}, change(6, 0), {Big.of(6), Big.MAX},
        };
    }

    private static BigInteger[] change(long what, long v) {
        return new BigInteger[] {Big.of(what), Big.of(v)};
    }
}
