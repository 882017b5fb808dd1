import java.math.BigInteger;

/** Promise 12: secret. */
final class SecretTest {
    private static final Check CHECK = new Check();

    public static void main(String[] args) {
        secretIs(Big.of(5), Big.of(11), Big.of(33));
        secretIs(Big.of(3), Big.of(3), Big.ONE);
        secretIs(Big.of(3), Big.of(65537), Big.of(65537));
        secretIs(Big.of(3), Big.of(4), Big.of(5));
        noSecret(0, 0);
        noSecret(2, 11);
        noSecret(5, 2);
        noSecret(1, 1);
        noSecret(65538, 11);
        noSecret(5, 65538);
        noSecret(65538, 65538);
        noSecret(3, 1 + 65537L * 1000003);
        manySecrets();
        hostOfNow();
        wrongIndexes();
        CHECK.end();
    }

    private static void secretIs(BigInteger p, BigInteger q, BigInteger d) {
        Big.due(CHECK, "secret of " + p + " and " + q, Big.secret(Examples.told(Big.ZERO, Big.ZERO, p, q)), d);
        Big.due(CHECK, "secret of " + q + " and " + p, Big.secret(Examples.told(Big.ZERO, Big.ZERO, q, p)), d);
    }

    private static void noSecret(long p, long q) {
        secretIs(Big.of(p), Big.of(q), Big.ZERO);
    }

    private static void manySecrets() {
        BigInteger[] factors = {
            Big.P128, Big.P127, Big.TWO.pow(128).subtract(Big.ONE), Big.TWO.pow(96), Big.TWO.pow(64).add(Big.ONE),
            Big.TWO.pow(32), Big.TWO.pow(32).add(Big.ONE), Big.of(3), Big.of(4), Big.of(1000003),
        };
        for (BigInteger p : factors) {
            for (BigInteger q : factors) {
                Model model = new Model();
                model.told[2] = p;
                model.told[3] = q;
                secretIs(p, q, model.secret());
            }
        }
    }

    private static void hostOfNow() {
        KeyMeeting m = Examples.agreed(Examples.little());
        CHECK.due("secret", m.secret(7), 33);
        m.small(2, 3);
        CHECK.due("secret of 3 and 11", m.secret(7), 13);
        m.small(2, 65538);
        CHECK.due("none", m.secret(7), 0);
        CHECK.due("the keys stay", m.state(), 3);
        m.small(2, 5);
        m.number(2, 3, 1);
        m.number(3, 0, -1);
        CHECK.due("high words do not count", m.secret(7), 33);
        KeyMeeting asked = Examples.offered(Examples.great());
        asked.secret(0);
        asked.answer();
        asked.secret(7);
        CHECK.due("asking changes nothing", asked.accept(), 1);
    }

    private static void wrongIndexes() {
        KeyMeeting[] all = {new KeyMeeting(), Examples.told(Examples.little())};
        for (KeyMeeting m : all) {
            for (int i : new int[] {-1, 8, Integer.MIN_VALUE, Integer.MAX_VALUE}) {
                CHECK.dueIndex("secret " + i, () -> m.secret(i));
            }
        }
    }
}
