import java.math.BigInteger;
import java.security.MessageDigest;
import java.security.NoSuchAlgorithmException;

/** The document once more, with the Java library's big numbers and its SHA-256, to compare with. */
final class Model {
    final BigInteger[] told = new BigInteger[7];
    final BigInteger[] sent = new BigInteger[4];
    private BigInteger offered;
    private BigInteger serverCommon;
    private BigInteger serverHash;
    private final byte[][] keys = new byte[2][];
    int state = 0;

    Model() {
        java.util.Arrays.fill(told, Big.ZERO);
        java.util.Arrays.fill(sent, Big.ZERO);
    }

    int offer() {
        if (state != 0) {
            return KeyMeeting.STATE;
        }
        if (!fit()) {
            return KeyMeeting.BAD;
        }
        offered = told[1].modPow(told[4], told[0]);
        sent[0] = offered;
        state = 1;
        return 1;
    }

    int answer() {
        if (state != 1) {
            return KeyMeeting.STATE;
        }
        if (!fit()) {
            return KeyMeeting.BAD;
        }
        if (!inRange(sent[0])) {
            state = -1;
            return -1;
        }
        BigInteger n = p().multiply(q());
        sent[1] = n;
        sent[2] = told[1].modPow(told[5], told[0]);
        serverCommon = sent[0].modPow(told[5], told[0]);
        serverHash = new BigInteger(1, digest(-1, told[0], told[1], n, sent[0], sent[2], serverCommon));
        sent[3] = serverHash.mod(n).modPow(inverse(), n);
        state = 2;
        return 1;
    }

    int accept() {
        if (state != 2) {
            return KeyMeeting.STATE;
        }
        if (!fit()) {
            return KeyMeeting.BAD;
        }
        state = tryAccept();
        return state == 3 ? 1 : state;
    }

    private int tryAccept() {
        BigInteger n = sent[1];
        if (!n.equals(told[6])) {
            return -2;
        }
        if (!inRange(sent[2])) {
            return -1;
        }
        BigInteger common = sent[2].modPow(told[4], told[0]);
        BigInteger hash = new BigInteger(1, digest(-1, told[0], told[1], n, offered, sent[2], common));
        if (sent[3].compareTo(n) >= 0 || !sent[3].modPow(Big.E, n).equals(hash.mod(n))) {
            return -3;
        }
        keys[0] = keysOf(common, hash);
        keys[1] = keysOf(serverCommon, serverHash);
        return 3;
    }

    int alter(int what, int i, int mask) {
        if (state != (what == 0 ? 1 : 2)) {
            return 0;
        }
        sent[what] = Big.withWord(sent[what], i, Big.word(sent[what], i) ^ mask);
        return 1;
    }

    void begin() {
        state = 0;
    }

    boolean hasKeys() {
        return state == 3;
    }

    int key(int side, int i) {
        byte[] k = keys[side];
        return (k[4 * i] & 255) << 24 | (k[4 * i + 1] & 255) << 16 | (k[4 * i + 2] & 255) << 8 | k[4 * i + 3] & 255;
    }

    BigInteger secret() {
        BigInteger three = Big.of(3);
        if (p().compareTo(three) < 0 || q().compareTo(three) < 0 || !totient().gcd(Big.E).equals(Big.ONE)) {
            return Big.ZERO;
        }
        return inverse();
    }

    private BigInteger p() {
        return told[2].mod(Big.TWO.pow(128));
    }

    private BigInteger q() {
        return told[3].mod(Big.TWO.pow(128));
    }

    private BigInteger totient() {
        return p().subtract(Big.ONE).multiply(q().subtract(Big.ONE));
    }

    private BigInteger inverse() {
        return Big.E.modInverse(totient());
    }

    private boolean fit() {
        return told[0].compareTo(Big.of(5)) >= 0 && inRange(told[1]) && secret().signum() != 0;
    }

    private boolean inRange(BigInteger v) {
        return Big.isFrom2ToPMinus2(v, told[0]);
    }

    private static byte[] keysOf(BigInteger common, BigInteger hash) {
        byte[] both = new byte[64];
        System.arraycopy(digest(65, common, hash), 0, both, 0, 32);
        System.arraycopy(digest(66, common, hash), 0, both, 32, 32);
        return both;
    }

    private static byte[] digest(int last, BigInteger... numbers) {
        try {
            MessageDigest sha = MessageDigest.getInstance("SHA-256");
            for (BigInteger v : numbers) {
                for (int shift = 248; shift >= 0; shift -= 8) {
                    sha.update(v.shiftRight(shift).byteValue());
                }
            }
            if (last >= 0) {
                sha.update((byte) last);
            }
            return sha.digest();
        } catch (NoSuchAlgorithmException e) {
            throw new IllegalStateException(e);
        }
    }
}
