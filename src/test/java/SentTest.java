/** Promise 8: sent. */
final class SentTest {
    private static final Check CHECK = new Check();

    public static void main(String[] args) {
        tellsEachPart();
        staysUntilSentAgain();
        badStepsSendNothing();
        wrongIndexes();
        CHECK.end();
    }

    private static void tellsEachPart() {
        Pair pair = new Pair(CHECK, "sent").tell(Examples.great());
        pair.compare();
        pair.offer();
        pair.compare();
        pair.alter(0, 2, 9);
        pair.compare();
        pair.answer();
        pair.compare();
        for (int what = 1; what < 4; what++) {
            pair.alter(what, what, 0x10101);
        }
        pair.compare();
        pair.accept();
        pair.compare();
    }

    private static void staysUntilSentAgain() {
        KeyMeeting m = Examples.agreed(Examples.little());
        int s = m.sent(3, 7);
        m.begin();
        dueSent("behind begin", m, 8, 55, 19, s);
        m.small(4, 1);
        m.offer();
        dueSent("behind the second offer", m, 5, 55, 19, s);
        m.small(5, 2);
        m.small(3, 3);
        m.answer();
        dueSent("behind the second answer", m, 5, 15, 2, m.sent(3, 7));
    }

    private static void dueSent(String when, KeyMeeting m, int... words) {
        for (int what = 0; what < 4; what++) {
            CHECK.due(when + ": sent " + what, m.sent(what, 7), words[what]);
        }
    }

    private static void badStepsSendNothing() {
        KeyMeeting m = Examples.told(Examples.little());
        m.small(0, 4);
        m.offer();
        dueSent("behind a bad offer", m, 0, 0, 0, 0);
        m.small(0, 23);
        m.offer();
        m.small(1, 1);
        m.answer();
        dueSent("behind a bad answer", m, 8, 0, 0, 0);
    }

    private static void wrongIndexes() {
        KeyMeeting[] all = {new KeyMeeting(), Examples.agreed(Examples.little())};
        for (KeyMeeting m : all) {
            for (int what : new int[] {-1, 4, Integer.MIN_VALUE, Integer.MAX_VALUE}) {
                CHECK.dueIndex("sent " + what, () -> m.sent(what, 0));
            }
            for (int i : new int[] {-1, 8, Integer.MIN_VALUE, Integer.MAX_VALUE}) {
                for (int what = 0; what < 4; what++) {
                    int part = what;
                    CHECK.dueIndex("sent " + what + " " + i, () -> m.sent(part, i));
                }
            }
        }
    }
}
