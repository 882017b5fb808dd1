/** Promise 10: state. */
final class StateTest {
    private static final Check CHECK = new Check();

    public static void main(String[] args) {
        CHECK.due("new", new KeyMeeting().state(), 0);
        stagesAndFaults();
        wholeMeeting();
        badStepsLeaveIt();
        otherCallsLeaveIt();
        CHECK.end();
    }

    /** "0 begun, 1 offered, 2 answered, 3 both have keys; minus the fault" */
    private static void stagesAndFaults() {
        for (Stage stage : Stage.values()) {
            KeyMeeting m = stage.make();
            CHECK.due(stage + ": state", m.state(), stage.state);
            CHECK.due(stage + ": state again", m.state(), stage.state);
        }
    }

    private static void wholeMeeting() {
        KeyMeeting m = Stage.BEGUN.make();
        for (int state = 0; state <= 3; state++) {
            CHECK.due("state", m.state(), state);
            stepsThatAreNotNext(m, state);
            CHECK.due("still the state", m.state(), state);
            if (state < 3) {
                CHECK.due("step", state == 0 ? m.offer() : state == 1 ? m.answer() : m.accept(), 1);
            }
        }
        m.begin();
        CHECK.due("begun anew", m.state(), 0);
    }

    private static void stepsThatAreNotNext(KeyMeeting m, int state) {
        if (state != 0) {
            m.offer();
        }
        if (state != 1) {
            m.answer();
        }
        if (state != 2) {
            m.accept();
        }
    }

    private static void badStepsLeaveIt() {
        for (Stage stage : Stage.values()) {
            KeyMeeting m = stage.make();
            m.small(0, 4);
            m.offer();
            m.answer();
            m.accept();
            CHECK.due(stage + ": state behind bad steps", m.state(), stage.state);
        }
    }

    private static void otherCallsLeaveIt() {
        for (Stage stage : Stage.values()) {
            KeyMeeting m = stage.make();
            for (int what = 0; what < 4; what++) {
                m.alter(what, 0, 1);
                m.sent(what, 0);
            }
            for (int what = 0; what < 7; what++) {
                m.number(what, 0, 5);
                m.small(what, 5);
            }
            m.secret(0);
            CHECK.dueIndex("key", () -> m.key(2, 0));
            CHECK.due(stage + ": state behind other calls", m.state(), stage.state);
        }
    }
}
