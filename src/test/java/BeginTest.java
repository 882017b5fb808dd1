/** Promise 11: begin. */
final class BeginTest {
    private static final Check CHECK = new Check();

    public static void main(String[] args) {
        for (Stage stage : Stage.values()) {
            nothingIsOnTheWay(stage);
            thereAreNoKeys(stage);
            stepsBeginAnew(stage, 1);
            stepsBeginAnew(stage, 2);
        }
        whatIsToldStays();
        nothingIsToldByIt();
        alterationsAreGone();
        CHECK.end();
    }

    private static KeyMeeting begun(Stage stage) {
        KeyMeeting m = stage.make();
        m.begin();
        return m;
    }

    /** "nothing is on the way" */
    private static void nothingIsOnTheWay(Stage stage) {
        KeyMeeting m = begun(stage);
        for (int what = 0; what < 4; what++) {
            for (int i = 0; i < 8; i++) {
                CHECK.due(stage + ": alter " + what + " " + i, m.alter(what, i, 1), 0);
            }
        }
    }

    /** "there are no keys" */
    private static void thereAreNoKeys(Stage stage) {
        KeyMeeting m = begun(stage);
        for (int i = 0; i < 16; i++) {
            int word = i;
            CHECK.dueState(stage + ": key 0 " + i, () -> m.key(0, word));
            CHECK.dueState(stage + ": key 1 " + i, () -> m.key(1, word));
        }
    }

    /** "It begins anew": also when it is said twice. */
    private static void stepsBeginAnew(Stage stage, int times) {
        KeyMeeting m = stage.make();
        for (int i = 0; i < times; i++) {
            m.begin();
        }
        CHECK.due(stage + ": state", m.state(), 0);
        CHECK.due(stage + ": accept", m.accept(), KeyMeeting.STATE);
        CHECK.due(stage + ": answer", m.answer(), KeyMeeting.STATE);
        CHECK.due(stage + ": offer", m.offer(), 1);
        CHECK.due(stage + ": accept behind offer", m.accept(), KeyMeeting.STATE);
        CHECK.due(stage + ": answer behind offer", m.answer(), 1);
        CHECK.due(stage + ": accept behind answer", m.accept(), 1);
        CHECK.due(stage + ": key", m.key(0, 15), 0xaf9bbb9e);
    }

    /** "(what is told stays)": every number, for the meeting behind begin. */
    private static void whatIsToldStays() {
        Pair pair = new Pair(CHECK, "told before begin").tell(Examples.great());
        pair.begin();
        pair.offer();
        pair.answer();
        CHECK.due("accept", pair.accept(), 1);
        pair.compare();
        pair.begin();
        pair.compare();
        pair.offer();
        pair.answer();
        CHECK.due("accept anew", pair.accept(), 1);
        pair.compare();
    }

    private static void nothingIsToldByIt() {
        KeyMeeting m = new KeyMeeting();
        m.begin();
        CHECK.due("state", m.state(), 0);
        CHECK.due("offer", m.offer(), KeyMeeting.BAD);
        Big.tellAll(m, Examples.little());
        m.small(0, 4);
        m.begin();
        CHECK.due("offer in the group 4", m.offer(), KeyMeeting.BAD);
    }

    private static void alterationsAreGone() {
        KeyMeeting m = Examples.offered(Examples.great());
        m.alter(0, 5, 99);
        m.begin();
        m.offer();
        Big.due(CHECK, "X", Big.sent(m, 0), Big.of(5).modPow(Examples.X, Big.P256));
        m.answer();
        m.alter(1, 0, 1);
        m.alter(2, 1, 1);
        m.alter(3, 2, 1);
        m.begin();
        m.offer();
        m.answer();
        Big.due(CHECK, "N", Big.sent(m, 1), Examples.N);
        CHECK.due("accept", m.accept(), 1);
    }
}
