import java.math.BigInteger;

/**
 * Terms: the digest. The wanted words were reckoned outside of this project, with another program's SHA-256.
 * The hash is of 192 bytes, three full rows, so that the bit 1, the bits 0 and the length fill a row of their own;
 * the keys are of 65 bytes, a row and one byte.
 */
final class DigestTest {
    private static final Check CHECK = new Check();
    private static final BigInteger HASH =
        new BigInteger("09b211d0dd0b52b2e492eb75755d9b6d6ccac7731301e8439f4c8f4466e487d9", 16);
    private static final int[] KEYS = {
        0x4dae69de, 0x9a1e9bf8, 0xca9ed6cb, 0x5b9e7fd2, 0x86b6e40c, 0x06b6802c, 0xd778fd84, 0xf4d16874,
        0xdce2ef38, 0xf185990f, 0x342a04a6, 0xbca095b1, 0xaabcb62f, 0xcf6b27b2, 0xffaa23b7, 0x3bbfa529,
    };

    public static void main(String[] args) {
        hashBelowN();
        hashAboveN();
        keysOf65And66();
        CHECK.end();
    }

    /** N is above this hash, so S to the power E is the hash itself. */
    private static void hashBelowN() {
        KeyMeeting m = Examples.answered(Examples.great());
        Big.due(CHECK, "the hash that S signs", Big.sent(m, 3).modPow(Big.E, Examples.N), HASH);
    }

    /** The hash 8a95a1ef .. 5a58753f is 30 modulo 55, and 30^33 is 35 there. */
    private static void hashAboveN() {
        CHECK.due("S", Examples.answered(Examples.little()).sent(3, 7), 35);
    }

    private static void keysOf65And66() {
        KeyMeeting m = Examples.agreed(Examples.great());
        for (int i = 0; i < 16; i++) {
            CHECK.due("key 0 " + i, m.key(0, i), KEYS[i]);
            CHECK.due("key 1 " + i, m.key(1, i), KEYS[i]);
        }
    }
}
