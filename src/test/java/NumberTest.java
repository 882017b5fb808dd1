/** Promise 2: number. */
final class NumberTest {
    private static final Check CHECK = new Check();

    public static void main(String[] args) {
        everyWordCounts();
        countsForStepsToCome();
        highHalvesOfTheHostAreLeftOut();
        wrongIndexes();
        CHECK.end();
    }

    /** Each word of each number is told, and then changed, and the meeting follows it. */
    private static void everyWordCounts() {
        for (int what = 0; what < 7; what++) {
            for (int i = 0; i < 8; i++) {
                Pair pair = new Pair(CHECK, "number " + what + " " + i).tell(Examples.great());
                pair.word(what, i, 0x01020304);
                pair.offer();
                pair.answer();
                pair.accept();
                pair.compare();
            }
        }
    }

    private static void countsForStepsToCome() {
        Pair pair = new Pair(CHECK, "steps to come").tell(Examples.little());
        pair.offer();
        pair.word(4, 7, 9);
        pair.word(1, 7, 7);
        pair.compare();
        pair.answer();
        pair.word(5, 7, 3);
        pair.word(0, 7, 29);
        pair.word(2, 7, 7);
        pair.compare();
        pair.accept();
        pair.compare();
        pair.word(0, 7, 0);
        pair.word(6, 7, 0);
        pair.compare();
    }

    private static void highHalvesOfTheHostAreLeftOut() {
        Pair pair = new Pair(CHECK, "high halves").tell(Examples.great());
        for (int i = 0; i < 4; i++) {
            pair.word(2, i, -1 - i);
            pair.word(3, i, 77 + i);
        }
        Big.due(CHECK, "D", Big.secret(pair.real), pair.model.secret());
        CHECK.due("offer", pair.offer(), 1);
        CHECK.due("answer", pair.answer(), 1);
        Big.due(CHECK, "N", Big.sent(pair.real, 1), Examples.N);
        CHECK.due("accept", pair.accept(), 1);
        KeyMeeting onlyHigh = Examples.told(Examples.of(23, 5, 0, 11, 6, 15, 55));
        onlyHigh.number(2, 3, 5);
        CHECK.due("p is 0", onlyHigh.offer(), KeyMeeting.BAD);
    }

    private static void wrongIndexes() {
        KeyMeeting m = Examples.told(Examples.little());
        int[] wrongWhat = {-1, 7, 8, Integer.MIN_VALUE, Integer.MAX_VALUE};
        int[] wrongWord = {-1, 8, 9, Integer.MIN_VALUE, Integer.MAX_VALUE};
        for (int what : wrongWhat) {
            CHECK.dueIndex("number " + what, () -> m.number(what, 0, 1));
            CHECK.dueIndex("number " + what + " 8", () -> m.number(what, 8, 1));
        }
        for (int i : wrongWord) {
            for (int what = 0; what < 7; what++) {
                int number = what;
                CHECK.dueIndex("number 0 " + i, () -> m.number(number, i, 1));
            }
        }
        CHECK.due("nothing changed", m.offer() + m.answer() + m.accept(), 3);
    }
}
