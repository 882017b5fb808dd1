import java.math.BigInteger;

/** Promise 12: secret. */
final class SecretTest {
    private static final Check CHECK = new Check();
    private static final BigInteger HALF = Big.TWO.pow(128);

    public static void main(String[] args) {
        knownSecrets();
        manySecrets();
        belowThree();
        thereIsNone();
        lowWordsCount();
        ofTheHostOfNow();
        otherNumbersDoNotCount();
        askingChangesNothing();
        wrongIndexes();
        CHECK.end();
    }

    private static void secretIs(BigInteger p, BigInteger q, BigInteger d) {
        Big.due(CHECK, "secret of " + p + " and " + q, Big.secret(Examples.told(Big.ZERO, Big.ZERO, p, q)), d);
        Big.due(CHECK, "secret of " + q + " and " + p, Big.secret(Examples.told(Big.ZERO, Big.ZERO, q, p)), d);
    }

    /** "Word i (0 .. 7) of D": by hand, and for the great example reckoned outside of this project. */
    private static void knownSecrets() {
        secretIs(Big.of(5), Big.of(11), Big.of(33));
        secretIs(Big.of(3), Big.of(3), Big.ONE);
        secretIs(Big.of(3), Big.of(4), Big.of(5));
        secretIs(Big.of(257), Big.of(257), Big.ONE);
        secretIs(Big.of(3), Big.of(65537), Big.of(65537));
        secretIs(Big.P128, Big.P127,
            new BigInteger("5b3ca4c35b3ca4c35b3ca4c35b3ca488e863179ce863179ce863179ce8631881", 16));
    }

    private static void manySecrets() {
        BigInteger[] factors = {
            Big.P128, Big.P127, HALF.subtract(Big.ONE), HALF.subtract(Big.TWO), Big.TWO.pow(97), Big.TWO.pow(96),
            Big.TWO.pow(64).add(Big.ONE), Big.TWO.pow(32), Big.TWO.pow(32).add(Big.ONE), Big.of(3), Big.of(4),
            Big.of(65536), Big.of(65537), Big.of(65539), Big.of(1000003), BadNumbers.GREATEST_WITHOUT_D,
            BadNumbers.GREATEST_WITHOUT_D.add(Big.ONE), BadNumbers.GREATEST_WITHOUT_D.subtract(Big.ONE),
        };
        for (BigInteger p : factors) {
            for (BigInteger q : factors) {
                Model model = new Model();
                model.told[2] = p;
                model.told[3] = q;
                secretIs(p, q, model.secret());
            }
        }
    }

    /** "0 when .. p or q is below 3" */
    private static void belowThree() {
        for (int below = 0; below < 3; below++) {
            secretIs(Big.of(below), Big.of(11), Big.ZERO);
            secretIs(Big.of(below), Big.of(3), Big.ZERO);
            secretIs(Big.of(below), Big.of(below), Big.ZERO);
            secretIs(Big.of(below), Big.P128, Big.ZERO);
        }
        secretIs(Big.of(3), Big.of(11), Big.of(13));
    }

    /** "0 when there is none": all eight words. */
    private static void thereIsNone() {
        secretIs(Big.of(65538), Big.of(11), Big.ZERO);
        secretIs(Big.of(65538), Big.of(65538), Big.ZERO);
        secretIs(Big.of(131075), Big.P127, Big.ZERO);
        secretIs(Big.of(3), Big.of(1 + 65537L * 1000003), Big.ZERO);
        secretIs(BadNumbers.GREATEST_WITHOUT_D, Big.P128, Big.ZERO);
        secretIs(Big.TWO.pow(32), Big.P128, Big.ZERO);
    }

    private static void lowWordsCount() {
        for (int i = 0; i < 4; i++) {
            BigInteger high = Big.withWord(Big.ZERO, i, -1);
            secretIs(Big.of(5).add(high), Big.of(11), Big.of(33));
            secretIs(Big.of(2).add(high), Big.of(11), Big.ZERO);
            secretIs(Big.of(3).add(high), Big.of(3), Big.ONE);
        }
    }

    /** "for the host's numbers of now": in every stage, and not for those that a step took. */
    private static void ofTheHostOfNow() {
        for (Stage stage : Stage.values()) {
            KeyMeeting m = stage.make();
            Big.due(CHECK, stage + ": 5 and 11", Big.secret(m), Big.of(33));
            m.small(2, 3);
            Big.due(CHECK, stage + ": 3 and 11", Big.secret(m), Big.of(13));
            m.small(2, 65538);
            Big.due(CHECK, stage + ": none", Big.secret(m), Big.ZERO);
            m.small(2, 2);
            Big.due(CHECK, stage + ": below 3", Big.secret(m), Big.ZERO);
            m.small(2, 5);
            m.number(3, 7, 3);
            Big.due(CHECK, stage + ": 5 and 3", Big.secret(m), Big.ONE);
        }
    }

    /** D is told also when the group or the generator would be BAD. */
    private static void otherNumbersDoNotCount() {
        KeyMeeting m = Examples.told(Big.of(4), Big.MAX, Big.of(5), Big.of(11), Big.MAX, Big.MAX, Big.MAX);
        CHECK.due("offer", m.offer(), KeyMeeting.BAD);
        Big.due(CHECK, "secret", Big.secret(m), Big.of(33));
    }

    private static void askingChangesNothing() {
        KeyMeeting m = Examples.told(Examples.great());
        m.secret(0);
        m.offer();
        m.secret(1);
        m.answer();
        m.small(2, 65538);
        m.secret(7);
        m.small(2, 7);
        m.secret(7);
        CHECK.due("accept", m.accept(), 1);
        m.small(2, 2);
        CHECK.due("no secret", m.secret(7), 0);
        CHECK.due("the keys stay", m.key(0, 0), 0x4dae69de);
    }

    /** "IndexOutOfBoundsException": whether there is a D or not */
    private static void wrongIndexes() {
        KeyMeeting without = Examples.told(Examples.of(23, 5, 65538, 11));
        KeyMeeting[] all = {new KeyMeeting(), without, Stage.BEGUN.make(), Stage.AGREED.make(), Stage.OVER_BY_N.make()};
        for (KeyMeeting m : all) {
            for (int i : new int[] {-1, 8, 9, Integer.MIN_VALUE, Integer.MAX_VALUE}) {
                CHECK.dueIndex("secret " + i, () -> m.secret(i));
            }
        }
    }
}
