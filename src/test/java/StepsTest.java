/** Terms: the steps in their order, each when the one before is done, or not at all; over with a fault. */
final class StepsTest {
    private static final Check CHECK = new Check();
    private static final String[] STEPS = {"offer", "answer", "accept"};

    public static void main(String[] args) {
        for (Stage stage : Stage.values()) {
            for (int step = 0; step < STEPS.length; step++) {
                if (stage.state == step) {
                    nextStepGoes(stage, step);
                } else {
                    otherStepsAreState(stage, step, false);
                    otherStepsAreState(stage, step, true);
                }
            }
        }
        faultsAreOverUntilBegin();
        stepsAreNotDoneTwice();
        CHECK.end();
    }

    private static int step(KeyMeeting m, int step) {
        return step == 0 ? m.offer() : step == 1 ? m.answer() : m.accept();
    }

    private static void nextStepGoes(Stage stage, int step) {
        KeyMeeting m = stage.make();
        CHECK.due(stage + ": " + STEPS[step], step(m, step), 1);
        CHECK.due(stage + ": state behind " + STEPS[step], m.state(), step + 1);
    }

    /** "STATE when it is not the next step (looked at first ..)": also when the numbers would be BAD. */
    private static void otherStepsAreState(Stage stage, int step, boolean bad) {
        KeyMeeting m = stage.make();
        if (bad) {
            m.small(0, 4);
        }
        String before = Seen.of(m);
        CHECK.due(stage + ": " + STEPS[step], step(m, step), KeyMeeting.STATE);
        CHECK.due(stage + ": behind " + STEPS[step], Seen.of(m), before);
    }

    /** "With a fault it is OVER; it begins anew with begin." */
    private static void faultsAreOverUntilBegin() {
        for (Stage stage : Stage.values()) {
            if (stage.isOver()) {
                KeyMeeting m = stage.make();
                CHECK.due(stage + ": state", m.state(), stage.state);
                for (int step = 0; step < STEPS.length; step++) {
                    CHECK.due(stage + ": " + STEPS[step], step(m, step), KeyMeeting.STATE);
                }
                Big.tellAll(m, Examples.little());
                CHECK.due(stage + ": told again is not begun", m.offer(), KeyMeeting.STATE);
                m.begin();
                CHECK.due(stage + ": begun anew", m.offer() + m.answer() + m.accept(), 3);
            }
        }
    }

    private static void stepsAreNotDoneTwice() {
        KeyMeeting m = Stage.BEGUN.make();
        for (int step = 0; step < STEPS.length; step++) {
            CHECK.due(STEPS[step], step(m, step), 1);
            CHECK.due(STEPS[step] + " again", step(m, step), KeyMeeting.STATE);
        }
        CHECK.due("state", m.state(), 3);
    }
}
