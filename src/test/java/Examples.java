import java.math.BigInteger;

/** Meetings that many tests begin with. */
final class Examples {
    static final BigInteger X = new BigInteger("123456789abcdef0fedcba9876543210deadbeef0badcafe1122334455667788", 16);
    static final BigInteger Y = new BigInteger("8899aabbccddeeff00112233445566778899aabbccddeeff0011223344556677", 16);
    static final BigInteger N = Big.P128.multiply(Big.P127);

    private Examples() {
    }

    /** P, G, p, q, x, y, what the client trusts. */
    static BigInteger[] great() {
        return new BigInteger[] {Big.P256, Big.of(5), Big.P128, Big.P127, X, Y, N};
    }

    static BigInteger[] of(long... numbers) {
        BigInteger[] all = new BigInteger[numbers.length];
        for (int i = 0; i < all.length; i++) {
            all[i] = Big.of(numbers[i]);
        }
        return all;
    }

    /** The group 23, the host 5 times 11, x = 6, y = 15. */
    static BigInteger[] little() {
        return of(23, 5, 5, 11, 6, 15, 55);
    }

    static KeyMeeting told(BigInteger... numbers) {
        KeyMeeting m = new KeyMeeting();
        Big.tellAll(m, numbers);
        return m;
    }

    static KeyMeeting offered(BigInteger... numbers) {
        KeyMeeting m = told(numbers);
        m.offer();
        return m;
    }

    static KeyMeeting answered(BigInteger... numbers) {
        KeyMeeting m = offered(numbers);
        m.answer();
        return m;
    }

    static KeyMeeting agreed(BigInteger... numbers) {
        KeyMeeting m = answered(numbers);
        m.accept();
        return m;
    }
}
