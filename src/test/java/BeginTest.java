/** Promise 11: begin. */
final class BeginTest {
    private static final Check CHECK = new Check();

    public static void main(String[] args) {
        beginsAnew("new", new KeyMeeting(), false);
        beginsAnew("told", Examples.told(Examples.little()), true);
        beginsAnew("offered", Examples.offered(Examples.little()), true);
        beginsAnew("answered", Examples.answered(Examples.little()), true);
        beginsAnew("agreed", Examples.agreed(Examples.little()), true);
        beginsAnew("great", Examples.agreed(Examples.great()), true);
        KeyMeeting over = Examples.answered(Examples.little());
        over.alter(1, 7, 1);
        over.accept();
        beginsAnew("over", over, true);
        alterationsAreGone();
        CHECK.end();
    }

    private static void beginsAnew(String when, KeyMeeting m, boolean told) {
        m.begin();
        CHECK.due(when + ": state", m.state(), 0);
        for (int what = 0; what < 4; what++) {
            CHECK.due(when + ": alter", m.alter(what, 7, 1), 0);
        }
        CHECK.dueState(when + ": key", () -> m.key(0, 0));
        CHECK.dueState(when + ": key", () -> m.key(1, 15));
        CHECK.due(when + ": answer", m.answer(), KeyMeeting.STATE);
        CHECK.due(when + ": accept", m.accept(), KeyMeeting.STATE);
        CHECK.due(when + ": offer", m.offer(), told ? 1 : KeyMeeting.BAD);
        if (told) {
            CHECK.due(when + ": answer and accept", m.answer() + m.accept(), 2);
        }
    }

    private static void alterationsAreGone() {
        KeyMeeting m = Examples.offered(Examples.great());
        m.alter(0, 5, 99);
        m.begin();
        m.offer();
        Big.due(CHECK, "X", Big.sent(m, 0), Big.of(5).modPow(Examples.X, Big.P256));
        m.answer();
        CHECK.due("accept", m.accept(), 1);
    }
}
