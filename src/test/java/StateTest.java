/** Promise 10: state. */
final class StateTest {
    private static final Check CHECK = new Check();

    public static void main(String[] args) {
        KeyMeeting m = Examples.told(Examples.little());
        CHECK.due("begun", m.state(), 0);
        m.answer();
        m.accept();
        CHECK.due("still begun", m.state(), 0);
        m.offer();
        CHECK.due("offered", m.state(), 1);
        m.offer();
        m.accept();
        CHECK.due("still offered", m.state(), 1);
        m.answer();
        CHECK.due("answered", m.state(), 2);
        m.offer();
        m.answer();
        CHECK.due("still answered", m.state(), 2);
        m.accept();
        CHECK.due("both have keys", m.state(), 3);
        m.offer();
        m.answer();
        m.accept();
        CHECK.due("they still have", m.state(), 3);
        m.begin();
        CHECK.due("begun anew", m.state(), 0);
        faults();
        CHECK.end();
    }

    private static void faults() {
        staysOver(-1, Examples.answered(Examples.of(23, 5, 5, 11, 0, 15, 55)));
        staysOver(-1, Examples.agreed(Examples.of(23, 5, 5, 11, 6, 0, 55)));
        staysOver(-2, Examples.agreed(Examples.of(23, 5, 5, 11, 6, 15, 56)));
        KeyMeeting m = Examples.answered(Examples.little());
        m.alter(3, 7, 64);
        m.accept();
        staysOver(-3, m);
    }

    private static void staysOver(int state, KeyMeeting m) {
        CHECK.due("over", m.state(), state);
        CHECK.due("offer", m.offer(), KeyMeeting.STATE);
        CHECK.due("answer", m.answer(), KeyMeeting.STATE);
        CHECK.due("accept", m.accept(), KeyMeeting.STATE);
        CHECK.due("still over", m.state(), state);
        m.begin();
        CHECK.due("begun anew", m.state(), 0);
    }
}
