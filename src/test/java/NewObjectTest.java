/** Promise 1: all numbers are 0, nothing is on the way. */
final class NewObjectTest {
    private static final Check CHECK = new Check();

    public static void main(String[] args) {
        KeyMeeting m = new KeyMeeting();
        CHECK.due("state", m.state(), 0);
        CHECK.due("answer", m.answer(), KeyMeeting.STATE);
        CHECK.due("accept", m.accept(), KeyMeeting.STATE);
        for (int what = 0; what < 4; what++) {
            for (int i = 0; i < 8; i++) {
                CHECK.due("alter", m.alter(what, i, -1), 0);
                CHECK.due("sent", m.sent(what, i), 0);
            }
        }
        for (int i = 0; i < 8; i++) {
            CHECK.due("secret", m.secret(i), 0);
        }
        CHECK.dueState("key", () -> m.key(0, 0));
        CHECK.due("offer", m.offer(), KeyMeeting.BAD);
        secretsAreNoughtAtFirst();
        trustedIsNoughtAtFirst();
        objectsAreApart();
        CHECK.end();
    }

    private static void secretsAreNoughtAtFirst() {
        KeyMeeting m = Examples.told(Examples.of(23, 5, 5, 11));
        CHECK.due("offer", m.offer(), 1);
        CHECK.due("X = G^0", m.sent(0, 7), 1);
        m.alter(0, 7, 1 ^ 8);
        CHECK.due("answer", m.answer(), 1);
        CHECK.due("Y = G^0", m.sent(2, 7), 1);
    }

    private static void trustedIsNoughtAtFirst() {
        KeyMeeting m = Examples.answered(Examples.of(23, 5, 5, 11, 6, 15));
        m.alter(1, 7, 55);
        CHECK.due("N = 0 is trusted, no S is below it", m.accept(), -3);
    }

    private static void objectsAreApart() {
        KeyMeeting a = Examples.agreed(Examples.great());
        KeyMeeting b = new KeyMeeting();
        CHECK.due("a", a.state(), 3);
        CHECK.due("b", b.state(), 0);
        CHECK.due("b's sent", b.sent(1, 0), 0);
        CHECK.due("b's secret", b.secret(7), 0);
    }
}
