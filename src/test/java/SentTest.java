/** Promise 8: sent. */
final class SentTest {
    private static final Check CHECK = new Check();

    public static void main(String[] args) {
        tellsEachPart();
        noughtBefore();
        alteredSince();
        asItWasSentLatest();
        badStepsSendNothing();
        readingChangesNothing();
        wrongWhat();
        wrongWord();
        CHECK.end();
    }

    /** "Word i of X, N, Y or S": all eight words, also when they are read behind the step that took them. */
    private static void tellsEachPart() {
        Pair pair = new Pair(CHECK, "sent").tell(Examples.great());
        pair.compare();
        pair.offer();
        pair.compare();
        pair.answer();
        pair.compare();
        pair.accept();
        pair.compare();
    }

    /** "0 before" */
    private static void noughtBefore() {
        KeyMeeting m = Stage.BEGUN.make();
        dueSent("before offer", m, 0, 0, 0, 0);
        m.offer();
        dueSent("behind offer", m, 8, 0, 0, 0);
        m.answer();
        dueSent("behind answer", m, 8, 55, 19, 35);
        m.accept();
        dueSent("behind accept", m, 8, 55, 19, 35);
        KeyMeeting over = Examples.answered(Examples.of(23, 5, 5, 11, 0, 15, 55));
        dueSent("behind the server's fault", over, 1, 0, 0, 0);
    }

    private static void dueSent(String when, KeyMeeting m, int... words) {
        for (int what = 0; what < 4; what++) {
            Big.due(CHECK, when + ": sent " + what, Big.sent(m, what), Big.of(words[what]));
        }
    }

    /** "(or altered since)": it stays altered behind the step that took it, and behind a fault. */
    private static void alteredSince() {
        KeyMeeting m = Stage.OFFERED.make();
        m.alter(0, 7, 1);
        dueSent("X altered", m, 9, 0, 0, 0);
        m.answer();
        CHECK.due("X altered, behind answer", m.sent(0, 7), 9);
        int s = m.sent(3, 7);
        int y = m.sent(2, 7);
        m.alter(1, 7, 8);
        m.alter(2, 7, 2);
        m.alter(3, 7, 64);
        dueSent("all altered", m, 9, 55 ^ 8, y ^ 2, s ^ 64);
        CHECK.due("accept", m.accept(), -2);
        dueSent("all altered, behind the fault", m, 9, 55 ^ 8, y ^ 2, s ^ 64);
    }

    /** "as it was sent latest": begin sends nothing, so each part stays until it is sent again. */
    private static void asItWasSentLatest() {
        KeyMeeting m = Stage.AGREED.make();
        m.begin();
        dueSent("behind begin", m, 8, 55, 19, 35);
        m.small(4, 1);
        m.offer();
        dueSent("behind the second offer", m, 5, 55, 19, 35);
        m.small(5, 2);
        m.small(3, 3);
        m.answer();
        CHECK.due("X", m.sent(0, 7), 5);
        CHECK.due("N", m.sent(1, 7), 15);
        CHECK.due("Y", m.sent(2, 7), 2);
        CHECK.due("S is new", m.sent(3, 7) >= 0 && m.sent(3, 7) < 15 ? 1 : 0, 1);
    }

    private static void badStepsSendNothing() {
        KeyMeeting m = Stage.BEGUN.make();
        m.small(0, 4);
        m.offer();
        dueSent("behind a bad offer", m, 0, 0, 0, 0);
        m.small(0, 23);
        m.offer();
        m.small(1, 1);
        m.answer();
        dueSent("behind a bad answer", m, 8, 0, 0, 0);
        m.small(1, 5);
        m.answer();
        m.small(2, 2);
        m.accept();
        dueSent("behind a bad accept", m, 8, 55, 19, 35);
    }

    private static void readingChangesNothing() {
        for (Stage stage : Stage.values()) {
            KeyMeeting m = stage.make();
            String before = Seen.of(m);
            CHECK.due(stage + ": seen again", Seen.of(m), before);
            if (stage.state >= 0 && stage.state < 3) {
                int next = stage == Stage.BEGUN ? m.offer() : stage == Stage.OFFERED ? m.answer() : m.accept();
                CHECK.due(stage + ": the next step", next, 1);
            }
        }
    }

    /** "IndexOutOfBoundsException as alter": when what is not 0 .. 3 */
    private static void wrongWhat() {
        for (Stage stage : Stage.values()) {
            KeyMeeting m = stage.make();
            for (int what : new int[] {-1, 4, 5, Integer.MIN_VALUE, Integer.MAX_VALUE}) {
                for (int i : new int[] {-1, 0, 7, 8}) {
                    CHECK.dueIndex(stage + ": sent " + what + " " + i, () -> m.sent(what, i));
                }
            }
        }
    }

    /** .. or i not 0 .. 7 */
    private static void wrongWord() {
        for (Stage stage : Stage.values()) {
            KeyMeeting m = stage.make();
            for (int i : new int[] {-1, 8, 9, Integer.MIN_VALUE, Integer.MAX_VALUE}) {
                for (int what = 0; what < 4; what++) {
                    int part = what;
                    CHECK.dueIndex(stage + ": sent " + part + " " + i, () -> m.sent(part, i));
                }
            }
        }
    }
}
