/** Promise 7: alter. */
final class AlterTest {
    private static final Check CHECK = new Check();

    public static void main(String[] args) {
        xorsOneWord();
        onlyWhatIsOnTheWayNow();
        firstAndLastMoment();
        refusedStepsLeaveItOnTheWay();
        alterationsAddUp();
        wrongWhat();
        wrongWord();
        CHECK.end();
    }

    /** "Word i of what is on the way is altered (xored with a mask)": that word and no other. */
    private static void xorsOneWord() {
        int[] masks = {0, 1, -1, Integer.MIN_VALUE, Integer.MAX_VALUE, 0x12345678};
        for (int what = 0; what < 4; what++) {
            for (int i = 0; i < 8; i++) {
                for (int mask : masks) {
                    Pair pair = new Pair(CHECK, "alter " + what + " " + i).tell(Examples.great());
                    pair.offer();
                    if (what > 0) {
                        pair.answer();
                    }
                    CHECK.due("alter", pair.alter(what, i, mask), 1);
                    pair.compare();
                    CHECK.due("alter back", pair.alter(what, i, mask), 1);
                    pair.compare();
                }
            }
        }
    }

    /** "0 when that is not on the way now (X between offer and answer, the others between answer and accept)" */
    private static void onlyWhatIsOnTheWayNow() {
        for (Stage stage : Stage.values()) {
            for (int what = 0; what < 4; what++) {
                boolean onTheWay = stage == (what == 0 ? Stage.OFFERED : Stage.ANSWERED);
                KeyMeeting m = stage.make();
                String before = Seen.of(m);
                for (int i = 0; i < 8; i++) {
                    CHECK.due(stage + ": alter " + what + " " + i, m.alter(what, i, 6), onTheWay ? 1 : 0);
                    CHECK.due(stage + ": by nothing", m.alter(what, i, 0), onTheWay ? 1 : 0);
                }
                CHECK.due(stage + ": altered", Seen.of(m).equals(before) ? 0 : 1, onTheWay ? 1 : 0);
            }
        }
    }

    private static void firstAndLastMoment() {
        KeyMeeting m = Stage.BEGUN.make();
        dueOnTheWay("before offer", m, 0, 0);
        m.offer();
        dueOnTheWay("behind offer", m, 1, 0);
        m.answer();
        dueOnTheWay("behind answer", m, 0, 1);
        m.accept();
        dueOnTheWay("behind accept", m, 0, 0);
        m.begin();
        dueOnTheWay("begun anew", m, 0, 0);
        m.offer();
        dueOnTheWay("behind the second offer", m, 1, 0);
        m.begin();
        dueOnTheWay("begun behind an offer", m, 0, 0);
        m.offer();
        m.answer();
        m.begin();
        dueOnTheWay("begun behind an answer", m, 0, 0);
    }

    private static void dueOnTheWay(String when, KeyMeeting m, int x, int others) {
        for (int what = 0; what < 4; what++) {
            CHECK.due(when + ": alter " + what, m.alter(what, 7, 0), what == 0 ? x : others);
        }
    }

    private static void refusedStepsLeaveItOnTheWay() {
        KeyMeeting m = Stage.OFFERED.make();
        m.small(0, 4);
        m.offer();
        m.answer();
        m.accept();
        dueOnTheWay("behind a bad answer", m, 1, 0);
        m.small(0, 23);
        m.answer();
        m.small(0, 4);
        m.offer();
        m.answer();
        m.accept();
        dueOnTheWay("behind a bad accept", m, 0, 1);
    }

    private static void alterationsAddUp() {
        KeyMeeting m = Stage.OFFERED.make();
        m.alter(0, 7, 1);
        m.alter(0, 7, 2);
        m.alter(0, 7, 4);
        CHECK.due("8 xored with 1, 2 and 4", m.sent(0, 7), 15);
        CHECK.due("answer", m.answer(), 1);
        CHECK.due("as it came", m.sent(0, 7), 15);
    }

    /** "IndexOutOfBoundsException when what is not 0 .. 3": whether something is on the way or not. */
    private static void wrongWhat() {
        for (Stage stage : Stage.values()) {
            KeyMeeting m = stage.make();
            String before = Seen.of(m);
            for (int what : new int[] {-1, 4, 5, Integer.MIN_VALUE, Integer.MAX_VALUE}) {
                for (int i : new int[] {-1, 0, 7, 8}) {
                    CHECK.dueIndex(stage + ": alter " + what + " " + i, () -> m.alter(what, i, 1));
                }
            }
            CHECK.due(stage + ": refused", Seen.of(m), before);
        }
    }

    /** ", or i not 0 .. 7" */
    private static void wrongWord() {
        for (Stage stage : Stage.values()) {
            KeyMeeting m = stage.make();
            String before = Seen.of(m);
            for (int i : new int[] {-1, 8, 9, Integer.MIN_VALUE, Integer.MAX_VALUE}) {
                for (int what = 0; what < 4; what++) {
                    int part = what;
                    CHECK.dueIndex(stage + ": alter " + part + " " + i, () -> m.alter(part, i, 1));
                }
            }
            CHECK.due(stage + ": refused", Seen.of(m), before);
        }
    }
}
