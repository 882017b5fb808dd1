import java.util.Arrays;

/**
 * Two sides that agree on keys over a way that may be listened to and altered.
 * Numbers are rows of eight words of 32 bits, the highest first. Every row is
 * made with the object and used again: no call makes a new one.
 */
public final class KeyMeeting {
    public static final int NONE = -1;
    public static final int BAD = -10, STATE = -11;

    private static final int DONE = 1;

    private static final int WORDS = 8;
    private static final int BITS = 256;
    private static final long MASK = 0xffffffffL;

    private static final int GROUP = 0, GENERATOR = 1, HOST_P = 2, HOST_Q = 3;
    private static final int CLIENT_SECRET = 4, SERVER_SECRET = 5, TRUSTED = 6;
    private static final int NUMBERS = 7;

    private static final int X = 0, N = 1, Y = 2, S = 3;
    private static final int PARTS = 4;

    private static final int CLIENT = 0, SERVER = 1;
    private static final int SIDES = 2;
    private static final int KEY_WORDS = 16;
    private static final int FIRST_KEY_BYTE = 65;

    private static final int BEGUN = 0, OFFERED = 1, ANSWERED = 2, AGREED = 3;
    private static final int OUT_OF_RANGE = 1, NOT_TRUSTED = 2, NOT_SIGNED = 3;

    private static final int LEAST_GROUP = 5;
    private static final int LEAST_POWER = 2;

    private final int[][] told = new int[NUMBERS][WORDS];
    private final int[][] way = new int[PARTS][WORDS];
    /** X before anybody altered it: the client hashes this one. */
    private final int[] offered = new int[WORDS];
    private final int[][] common = new int[SIDES][WORDS];
    private final int[][] hashes = new int[SIDES][WORDS];
    private final int[][] keys = new int[SIDES][KEY_WORDS];
    private final int[] highestPower = new int[WORDS];
    private final int[] hashRest = new int[WORDS];
    private final int[] opened = new int[WORDS];
    private final Host host = new Host();
    private final Modulus modulus = new Modulus();
    private final Digest digest = new Digest();
    /** How far it is, or minus the fault. */
    private int stage = BEGUN;

    public KeyMeeting() {
    }

    public void number(int what, int i, int v) throws IndexOutOfBoundsException {
        needIndex(what, NUMBERS);
        needIndex(i, WORDS);
        told[what][i] = v;
    }

    public void small(int what, long v) throws IndexOutOfBoundsException, IllegalArgumentException {
        needIndex(what, NUMBERS);
        if (v < 0) {
            throw new IllegalArgumentException("below 0");
        }
        Arrays.fill(told[what], 0);
        told[what][WORDS - 2] = (int) (v >>> 32);
        told[what][WORDS - 1] = (int) v;
    }

    public int offer() {
        if (stage != BEGUN) {
            return STATE;
        }
        if (!numbersAreFit()) {
            return BAD;
        }
        modulus.take(told[GROUP]);
        modulus.power(told[GENERATOR], told[CLIENT_SECRET], offered);
        Words.copy(offered, way[X]);
        stage = OFFERED;
        return DONE;
    }

    public int answer() {
        if (stage != OFFERED) {
            return STATE;
        }
        if (!numbersAreFit()) {
            return BAD;
        }
        if (!isFitPower(way[X])) {
            return endWith(OUT_OF_RANGE);
        }
        modulus.take(told[GROUP]);
        modulus.power(told[GENERATOR], told[SERVER_SECRET], way[Y]);
        modulus.power(way[X], told[SERVER_SECRET], common[SERVER]);
        Words.copy(host.product, way[N]);
        makeHash(SERVER, way[X]);
        sign();
        stage = ANSWERED;
        return DONE;
    }

    public int accept() {
        if (stage != ANSWERED) {
            return STATE;
        }
        if (!numbersAreFit()) {
            return BAD;
        }
        if (Words.compare(way[N], told[TRUSTED]) != 0) {
            return endWith(NOT_TRUSTED);
        }
        if (!isFitPower(way[Y])) {
            return endWith(OUT_OF_RANGE);
        }
        modulus.take(told[GROUP]);
        modulus.power(way[Y], told[CLIENT_SECRET], common[CLIENT]);
        makeHash(CLIENT, offered);
        if (!isSigned()) {
            return endWith(NOT_SIGNED);
        }
        makeKeys(CLIENT);
        makeKeys(SERVER);
        stage = AGREED;
        return DONE;
    }

    public int alter(int what, int i, int mask) throws IndexOutOfBoundsException {
        needIndex(what, PARTS);
        needIndex(i, WORDS);
        int stageOfPart = what == X ? OFFERED : ANSWERED;
        if (stage != stageOfPart) {
            return 0;
        }
        way[what][i] ^= mask;
        return DONE;
    }

    public int sent(int what, int i) throws IndexOutOfBoundsException {
        needIndex(what, PARTS);
        needIndex(i, WORDS);
        return way[what][i];
    }

    public int key(int side, int i) throws IndexOutOfBoundsException, IllegalStateException {
        needIndex(side, SIDES);
        needIndex(i, KEY_WORDS);
        if (stage != AGREED) {
            throw new IllegalStateException("no keys");
        }
        return keys[side][i];
    }

    public int state() {
        return stage;
    }

    /** What was sent stays to be read: only the stage says what is on the way and whether there are keys. */
    public void begin() {
        stage = BEGUN;
    }

    public int secret(int i) throws IndexOutOfBoundsException {
        needIndex(i, WORDS);
        return host.take(told[HOST_P], told[HOST_Q]) ? host.inverse[i] : 0;
    }

    private static void needIndex(int i, int bound) {
        if (i < 0 || i >= bound) {
            throw new IndexOutOfBoundsException("no such index");
        }
    }

    private int endWith(int fault) {
        stage = -fault;
        return stage;
    }

    /** Leaves N and D in the host when all is as OFFER wants it. */
    private boolean numbersAreFit() {
        return Words.atLeast(told[GROUP], LEAST_GROUP)
            && isFitPower(told[GENERATOR])
            && host.take(told[HOST_P], told[HOST_Q]);
    }

    private boolean isFitPower(int[] a) {
        Words.subtract(told[GROUP], LEAST_POWER, highestPower);
        return Words.atLeast(a, LEAST_POWER) && Words.compare(a, highestPower) <= 0;
    }

    /** Each side hashes its own X: the server the one that came, the client the one it sent. */
    private void makeHash(int side, int[] ownX) {
        digest.clear();
        digest.put(told[GROUP]);
        digest.put(told[GENERATOR]);
        digest.put(way[N]);
        digest.put(ownX);
        digest.put(way[Y]);
        digest.put(common[side]);
        digest.end(0, 0, hashes[side], 0);
    }

    private void sign() {
        modulus.take(way[N]);
        modulus.rest(hashes[SERVER], hashRest);
        modulus.power(hashRest, host.inverse, way[S]);
    }

    /** The N that came may be 0 here: no S is below it, so it never becomes a modulus. */
    private boolean isSigned() {
        if (Words.compare(way[S], way[N]) >= 0) {
            return false;
        }
        modulus.take(way[N]);
        modulus.rest(hashes[CLIENT], hashRest);
        modulus.power(way[S], Host.EXPONENT_WORDS, opened);
        return Words.compare(opened, hashRest) == 0;
    }

    private void makeKeys(int side) {
        for (int half = 0; half < KEY_WORDS / WORDS; half++) {
            digest.clear();
            digest.put(common[side]);
            digest.put(hashes[side]);
            digest.end((FIRST_KEY_BYTE + half) << 24, 8, keys[side], WORDS * half);
        }
    }

    /** Plain arithmetic on rows of eight words. */
    private static final class Words {
        static void copy(int[] from, int[] to) {
            System.arraycopy(from, 0, to, 0, WORDS);
        }

        static int compare(int[] a, int[] b) {
            for (int i = 0; i < WORDS; i++) {
                if (a[i] != b[i]) {
                    return (a[i] & MASK) < (b[i] & MASK) ? -1 : 1;
                }
            }
            return 0;
        }

        static boolean atLeast(int[] a, int least) {
            for (int i = 0; i < WORDS - 1; i++) {
                if (a[i] != 0) {
                    return true;
                }
            }
            return (a[WORDS - 1] & MASK) >= least;
        }

        static void subtract(int[] a, int few, int[] out) {
            long borrow = few;
            for (int i = WORDS - 1; i >= 0; i--) {
                long left = (a[i] & MASK) - borrow;
                out[i] = (int) left;
                borrow = left < 0 ? 1 : 0;
            }
        }

        /** Fills sixteen words. */
        static void multiply(int[] a, int[] b, int[] wide) {
            Arrays.fill(wide, 0);
            for (int i = WORDS - 1; i >= 0; i--) {
                if (a[i] != 0) {
                    wide[i] = addMultiple(a[i] & MASK, b, wide, i);
                }
            }
        }

        private static int addMultiple(long times, int[] b, int[] wide, int at) {
            long carry = 0;
            for (int j = WORDS - 1; j >= 0; j--) {
                long sum = times * (b[j] & MASK) + (wide[at + 1 + j] & MASK) + carry;
                wide[at + 1 + j] = (int) sum;
                carry = sum >>> 32;
            }
            return (int) carry;
        }

        /** Bit 0 is the highest. */
        static boolean hasBit(int[] a, int bit) {
            return (a[bit >>> 5] << (bit & 31)) < 0;
        }

        static int leadingZeros(int[] a) {
            int bit = 0;
            while (bit < BITS && !hasBit(a, bit)) {
                bit++;
            }
            return bit;
        }

        static void shiftLeft(int[] a, int bits, int[] out) {
            int whole = bits >>> 5;
            for (int i = 0; i < WORDS; i++) {
                long pair = (wordOrZero(a, i + whole) << 32) | wordOrZero(a, i + whole + 1);
                out[i] = (int) ((pair << (bits & 31)) >>> 32);
            }
        }

        static void shiftRight(int[] a, int bits, int[] out) {
            int whole = bits >>> 5;
            for (int i = WORDS - 1; i >= 0; i--) {
                long pair = (wordOrZero(a, i - whole - 1) << 32) | wordOrZero(a, i - whole);
                out[i] = (int) (pair >>> (bits & 31));
            }
        }

        private static long wordOrZero(int[] a, int i) {
            return i >= 0 && i < WORDS ? a[i] & MASK : 0;
        }
    }

    /**
     * Products and powers modulo a number from 1 on. The number is kept shifted
     * up until its highest bit is set, so that one way of dividing, with eight
     * words and eight steps, serves for every modulus.
     */
    private static final class Modulus {
        private static final int[] ONE = {0, 0, 0, 0, 0, 0, 0, 1};

        private final int[] shifted = new int[WORDS];
        private final int[] factor = new int[WORDS];
        private final int[] wide = new int[2 * WORDS];
        private final int[] low = new int[WORDS];
        private final int[] result = new int[WORDS];
        private int shift;

        void take(int[] m) {
            shift = Words.leadingZeros(m);
            Words.shiftLeft(m, shift, shifted);
        }

        void rest(int[] a, int[] out) {
            multiply(a, ONE, out);
        }

        /** The base must be below the modulus. */
        void power(int[] base, int[] exponent, int[] out) {
            multiply(ONE, ONE, result);
            for (int bit = Words.leadingZeros(exponent); bit < BITS; bit++) {
                multiply(result, result, result);
                if (Words.hasBit(exponent, bit)) {
                    multiply(result, base, result);
                }
            }
            Words.copy(result, out);
        }

        /** Only b must not be above the modulus: then the quotient has eight words, whatever a is. */
        private void multiply(int[] a, int[] b, int[] out) {
            Words.shiftLeft(b, shift, factor);
            Words.multiply(a, factor, wide);
            reduce();
            System.arraycopy(wide, WORDS, low, 0, WORDS);
            Words.shiftRight(low, shift, out);
        }

        private void reduce() {
            for (int at = 0; at < WORDS; at++) {
                long digit = guessDigit(at);
                if (digit != 0) {
                    takeAway(digit, at);
                }
            }
        }

        /** The quotient's word as the highest words show it: right, or too great by one or two. */
        private long guessDigit(int at) {
            long high = wide[at] & MASK;
            long divisor = shifted[0] & MASK;
            // Behind this test the quotient fits a word, and the divisor is not 0.
            if (high >= divisor) {
                return MASK;
            }
            long pair = (high << 32) | (wide[at + 1] & MASK);
            // The pair may fill all 64 bits, and Java's division would take it as below 0.
            long even = ((pair >>> 1) / divisor) << 1;
            return pair - even * divisor >= divisor ? even + 1 : even;
        }

        private void takeAway(long digit, int at) {
            long carry = 0;
            for (int i = WORDS - 1; i >= 0; i--) {
                long part = digit * (shifted[i] & MASK) + carry;
                long left = (wide[at + 1 + i] & MASK) - (part & MASK);
                wide[at + 1 + i] = (int) left;
                carry = (part >>> 32) + (left < 0 ? 1 : 0);
            }
            long top = (wide[at] & MASK) - carry;
            for (int tries = 0; tries < 2 && top < 0; tries++) {
                top += giveBack(at);
            }
        }

        private long giveBack(int at) {
            long carry = 0;
            for (int i = WORDS - 1; i >= 0; i--) {
                long sum = (wide[at + 1 + i] & MASK) + (shifted[i] & MASK) + carry;
                wide[at + 1 + i] = (int) sum;
                carry = sum >>> 32;
            }
            return carry;
        }
    }

    /** The host's numbers: N = p q, and D to sign with. */
    private static final class Host {
        private static final long EXPONENT = 65537;
        static final int[] EXPONENT_WORDS = {0, 0, 0, 0, 0, 0, 0, 65537};
        private static final int LEAST = 3;

        final int[] product = new int[WORDS];
        final int[] inverse = new int[WORDS];
        private final int[] p = new int[WORDS];
        private final int[] q = new int[WORDS];
        private final int[] wide = new int[2 * WORDS];

        /** False when p or q is below 3, or there is no D. */
        boolean take(int[] toldP, int[] toldQ) {
            takeLowHalf(toldP, p);
            takeLowHalf(toldQ, q);
            if (!Words.atLeast(p, LEAST) || !Words.atLeast(q, LEAST)) {
                return false;
            }
            multiplyBoth(product);
            Words.subtract(p, 1, p);
            Words.subtract(q, 1, q);
            multiplyBoth(inverse);
            return invert();
        }

        private static void takeLowHalf(int[] from, int[] to) {
            for (int i = WORDS / 2; i < WORDS; i++) {
                to[i] = from[i];
            }
        }

        private void multiplyBoth(int[] out) {
            Words.multiply(p, q, wide);
            System.arraycopy(wide, WORDS, out, 0, WORDS);
        }

        /**
         * Turns m = (p - 1) (q - 1) into D = (k m + 1) / E, k being the one
         * number below E with which that division leaves no rest.
         */
        private boolean invert() {
            long rest = restOfInverse();
            if (rest == 0) {
                return false;
            }
            long k = EXPONENT - inverseOfSmall(rest);
            long carry = 1;
            for (int i = WORDS - 1; i >= 0; i--) {
                long sum = k * (inverse[i] & MASK) + carry;
                inverse[i] = (int) sum;
                carry = sum >>> 32;
            }
            divideInverse(carry);
            return true;
        }

        private long restOfInverse() {
            long rest = 0;
            for (int i = 0; i < WORDS; i++) {
                rest = ((rest << 32) | (inverse[i] & MASK)) % EXPONENT;
            }
            return rest;
        }

        /** E is a prime, so the power E - 2 = 2^16 - 1 is the inverse. */
        private static long inverseOfSmall(long a) {
            long power = 1;
            for (int i = 0; i < 16; i++) {
                power = power * power % EXPONENT * a % EXPONENT;
            }
            return power;
        }

        private void divideInverse(long highest) {
            long rest = highest;
            for (int i = 0; i < WORDS; i++) {
                long pair = (rest << 32) | (inverse[i] & MASK);
                inverse[i] = (int) (pair / EXPONENT);
                rest = pair % EXPONENT;
            }
        }
    }

    /** The digest of words and of some bits behind them. */
    private static final class Digest {
        private static final int ROW = 16;
        private static final int ROUNDS = 64;
        private static final int LENGTH_AT = 14;
        private static final int[] START = {
            0x6a09e667, 0xbb67ae85, 0x3c6ef372, 0xa54ff53a, 0x510e527f, 0x9b05688c, 0x1f83d9ab, 0x5be0cd19,
        };
        private static final int[] ROOTS = {
            0x428a2f98, 0x71374491, 0xb5c0fbcf, 0xe9b5dba5, 0x3956c25b, 0x59f111f1, 0x923f82a4, 0xab1c5ed5,
            0xd807aa98, 0x12835b01, 0x243185be, 0x550c7dc3, 0x72be5d74, 0x80deb1fe, 0x9bdc06a7, 0xc19bf174,
            0xe49b69c1, 0xefbe4786, 0x0fc19dc6, 0x240ca1cc, 0x2de92c6f, 0x4a7484aa, 0x5cb0a9dc, 0x76f988da,
            0x983e5152, 0xa831c66d, 0xb00327c8, 0xbf597fc7, 0xc6e00bf3, 0xd5a79147, 0x06ca6351, 0x14292967,
            0x27b70a85, 0x2e1b2138, 0x4d2c6dfc, 0x53380d13, 0x650a7354, 0x766a0abb, 0x81c2c92e, 0x92722c85,
            0xa2bfe8a1, 0xa81a664b, 0xc24b8b70, 0xc76c51a3, 0xd192e819, 0xd6990624, 0xf40e3585, 0x106aa070,
            0x19a4c116, 0x1e376c08, 0x2748774c, 0x34b0bcb5, 0x391c0cb3, 0x4ed8aa4a, 0x5b9cca4f, 0x682e6ff3,
            0x748f82ee, 0x78a5636f, 0x84c87814, 0x8cc70208, 0x90befffa, 0xa4506ceb, 0xbef9a3f7, 0xc67178f2,
        };

        private final int[] sums = new int[WORDS];
        private final int[] row = new int[ROUNDS];
        private int count;

        void clear() {
            Words.copy(START, sums);
            count = 0;
        }

        void put(int[] words) {
            for (int i = 0; i < WORDS; i++) {
                putWord(words[i]);
            }
        }

        /** The highest lastBits bits of last, fewer than 32, still belong to what is digested. */
        void end(int last, int lastBits, int[] out, int at) {
            long bits = 32L * count + lastBits;
            putWord(last | (0x80000000 >>> lastBits));
            for (int i = 0; i < ROW && count % ROW != LENGTH_AT; i++) {
                putWord(0);
            }
            putWord((int) (bits >>> 32));
            putWord((int) bits);
            System.arraycopy(sums, 0, out, at, WORDS);
        }

        private void putWord(int word) {
            row[count % ROW] = word;
            count++;
            if (count % ROW == 0) {
                mixRow();
            }
        }

        private void mixRow() {
            spreadRow();
            int a = sums[0], b = sums[1], c = sums[2], d = sums[3];
            int e = sums[4], f = sums[5], g = sums[6], h = sums[7];
            for (int t = 0; t < ROUNDS; t++) {
                int u = h + (turn(e, 6) ^ turn(e, 11) ^ turn(e, 25)) + ((e & f) ^ (~e & g)) + ROOTS[t] + row[t];
                int v = (turn(a, 2) ^ turn(a, 13) ^ turn(a, 22)) + ((a & b) ^ (a & c) ^ (b & c));
                h = g;
                g = f;
                f = e;
                e = d + u;
                d = c;
                c = b;
                b = a;
                a = u + v;
            }
            sums[0] += a;
            sums[1] += b;
            sums[2] += c;
            sums[3] += d;
            sums[4] += e;
            sums[5] += f;
            sums[6] += g;
            sums[7] += h;
        }

        private void spreadRow() {
            for (int t = ROW; t < ROUNDS; t++) {
                int x = row[t - 15];
                int s = turn(x, 7) ^ turn(x, 18) ^ (x >>> 3);
                int y = row[t - 2];
                int r = turn(y, 17) ^ turn(y, 19) ^ (y >>> 10);
                row[t] = row[t - 16] + s + row[t - 7] + r;
            }
        }

        private static int turn(int x, int n) {
            return (x >>> n) | (x << (32 - n));
        }
    }
}
