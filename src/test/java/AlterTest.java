/** Promise 7: alter. */
final class AlterTest {
    private static final Check CHECK = new Check();

    public static void main(String[] args) {
        onlyBetweenTheSteps();
        xorsOneWord();
        notWhenItIsOver();
        wrongIndexes();
        CHECK.end();
    }

    private static void onlyBetweenTheSteps() {
        alters("begun", Examples.told(Examples.little()), false, false);
        alters("offered", Examples.offered(Examples.little()), true, false);
        alters("answered", Examples.answered(Examples.little()), false, true);
        alters("agreed", Examples.agreed(Examples.little()), false, false);
        KeyMeeting m = Examples.answered(Examples.little());
        m.begin();
        alters("begun anew", m, false, false);
        m.offer();
        alters("offered anew", m, true, false);
    }

    private static void alters(String when, KeyMeeting m, boolean x, boolean others) {
        for (int what = 0; what < 4; what++) {
            int due = (what == 0 ? x : others) ? 1 : 0;
            int before = m.sent(what, 3);
            CHECK.due(when + ": alter " + what, m.alter(what, 3, 6), due);
            CHECK.due(when + ": sent " + what, m.sent(what, 3), due == 1 ? before ^ 6 : before);
            CHECK.due(when + ": alter " + what + " by nothing", m.alter(what, 3, 0), due);
        }
    }

    private static void xorsOneWord() {
        int[] masks = {1, -1, Integer.MIN_VALUE, 0x12345678};
        for (int what = 0; what < 4; what++) {
            for (int i = 0; i < 8; i++) {
                for (int mask : masks) {
                    Pair pair = new Pair(CHECK, "alter " + what + " " + i).tell(Examples.great());
                    pair.offer();
                    if (what > 0) {
                        pair.answer();
                    }
                    CHECK.due("alter", pair.alter(what, i, mask), 1);
                    pair.compare();
                    CHECK.due("alter back", pair.alter(what, i, mask), 1);
                    pair.compare();
                }
            }
        }
    }

    private static void notWhenItIsOver() {
        KeyMeeting server = Examples.answered(Examples.of(23, 5, 5, 11, 0, 15, 55));
        CHECK.due("over", server.state(), -1);
        alters("over by the server", server, false, false);
        KeyMeeting client = Examples.agreed(Examples.of(23, 5, 5, 11, 6, 15, 54));
        CHECK.due("over", client.state(), -2);
        alters("over by the client", client, false, false);
    }

    private static void wrongIndexes() {
        KeyMeeting[] all = {new KeyMeeting(), Examples.offered(Examples.little()), Examples.answered(Examples.little())};
        for (KeyMeeting m : all) {
            for (int what : new int[] {-1, 4, Integer.MIN_VALUE, Integer.MAX_VALUE}) {
                CHECK.dueIndex("alter " + what, () -> m.alter(what, 0, 1));
            }
            for (int i : new int[] {-1, 8, Integer.MIN_VALUE, Integer.MAX_VALUE}) {
                for (int what = 0; what < 4; what++) {
                    int part = what;
                    CHECK.dueIndex("alter " + what + " " + i, () -> m.alter(part, i, 1));
                }
            }
        }
    }
}
