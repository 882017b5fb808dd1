import java.math.BigInteger;
import java.util.Random;

/** All promises: runs of calls by chance (always the same), up to the 512th call, compared with the model. */
final class RandomRunsTest {
    private static final Check CHECK = new Check();
    private static final long[] LEASTS = {0, 1, 2, 3, 4, 5, 6, 7, 11, 23, 65537, 65538};

    private static final int MOST_OF_ONE_TURN = 60, ALL_SEEN = 73;

    private final Random random;
    private final Pair pair;

    private RandomRunsTest(int seed) {
        random = new Random(seed);
        pair = new Pair(CHECK, "run " + seed);
    }

    public static void main(String[] args) {
        for (int seed = 0; seed < 2500; seed++) {
            new RandomRunsTest(seed).run();
        }
        CHECK.end();
    }

    private void run() {
        boolean little = random.nextBoolean();
        tellAll(little);
        while (pair.hasRoomFor(MOST_OF_ONE_TURN + ALL_SEEN)) {
            call(little);
            pair.state();
            if (random.nextInt(12) == 0 && pair.hasRoomFor(MOST_OF_ONE_TURN + 2 * ALL_SEEN)) {
                pair.compare();
            }
        }
        pair.compare();
    }

    private void tellAll(boolean little) {
        for (int what = 0; what < 6; what++) {
            if (little) {
                pair.small(what, 5 + random.nextInt(60));
            } else {
                pair.number(what, great(what));
            }
        }
        trustTheHost();
    }

    /** Words of all ones and all zeros are what makes a guessed digit of a quotient wrong. */
    private BigInteger great(int what) {
        BigInteger v = Big.ZERO;
        int first = what == 1 ? 1 : random.nextInt(3);
        for (int i = first; i < 8; i++) {
            int kind = random.nextInt(4);
            int word = kind == 0 ? -1 : kind == 1 ? 0 : kind == 2 ? Integer.MIN_VALUE : random.nextInt();
            v = Big.withWord(v, i, word);
        }
        return v;
    }

    private void trustTheHost() {
        BigInteger half = Big.TWO.pow(128);
        pair.number(6, pair.model.told[2].mod(half).multiply(pair.model.told[3].mod(half)));
    }

    private void call(boolean little) {
        switch (random.nextInt(16)) {
            case 0, 1 -> pair.offer();
            case 2, 3 -> pair.answer();
            case 4, 5 -> pair.accept();
            case 6, 7, 13, 14 -> next();
            case 8 -> pair.alter(random.nextInt(4), little ? 7 : random.nextInt(8), random.nextInt(little ? 4 : 100));
            case 9 -> pair.begin();
            case 10 -> pair.small(random.nextInt(7), LEASTS[random.nextInt(LEASTS.length)]);
            case 11 -> pair.word(random.nextInt(7), random.nextInt(8), random.nextInt());
            case 12 -> tellAll(little);
            default -> trustTheHost();
        }
    }

    private void next() {
        switch (pair.model.state) {
            case 0 -> pair.offer();
            case 1 -> pair.answer();
            case 2 -> pair.accept();
            default -> pair.begin();
        }
    }
}
