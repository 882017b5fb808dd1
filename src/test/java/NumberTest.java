/** Promise 2: number. */
final class NumberTest {
    private static final Check CHECK = new Check();
    private static final int[] VALUES = {0, 1, -1, Integer.MIN_VALUE, Integer.MAX_VALUE, 0x01020304};

    public static void main(String[] args) {
        everyWordCounts();
        everyValueIsTaken();
        latestValueCounts();
        countsForStepsToCome();
        numbersOfDoneStepsStay();
        wrongWhat();
        wrongWord();
        refusedCallsChangeNothing();
        CHECK.end();
    }

    /** "Word i of number what is v from now on": each word of each number is changed, and the meeting follows it. */
    private static void everyWordCounts() {
        for (int what = 0; what < 7; what++) {
            for (int i = 0; i < 8; i++) {
                for (int v : VALUES) {
                    Pair pair = new Pair(CHECK, "number " + what + " " + i + " " + v).tell(Examples.great());
                    pair.word(what, i, v);
                    pair.offer();
                    pair.answer();
                    pair.accept();
                    pair.compare();
                }
            }
        }
    }

    /** With x = 1 what is sent as X is G itself: all its words can be read. */
    private static void everyValueIsTaken() {
        for (int v : VALUES) {
            for (int i = 1; i < 8; i++) {
                KeyMeeting m = Examples.told(Big.MAX, Big.TWO.pow(224).add(Big.TWO), Big.of(5), Big.of(11), Big.ONE);
                m.number(1, i, v);
                CHECK.due("offer", m.offer(), 1);
                CHECK.due("word " + i, m.sent(0, i), v);
                CHECK.due("word 0", m.sent(0, 0), 1);
            }
        }
    }

    private static void latestValueCounts() {
        KeyMeeting m = Examples.told(Examples.little());
        m.number(4, 7, 9);
        m.number(4, 7, 2);
        m.offer();
        CHECK.due("X = 5^2", m.sent(0, 7), 2);
    }

    /** "(it counts for steps to come)" */
    private static void countsForStepsToCome() {
        Pair pair = new Pair(CHECK, "steps to come").tell(Examples.little());
        pair.offer();
        pair.word(4, 7, 9);
        pair.word(1, 7, 7);
        pair.compare();
        pair.answer();
        pair.word(5, 7, 3);
        pair.word(0, 7, 29);
        pair.word(2, 7, 7);
        pair.compare();
        pair.accept();
        pair.compare();
        pair.word(0, 7, 0);
        pair.word(6, 7, 0);
        pair.compare();
    }

    /** Not for steps that are done: what they sent, the stage and the keys stay as they are. */
    private static void numbersOfDoneStepsStay() {
        for (Stage stage : Stage.values()) {
            for (int what : new int[] {0, 1, 4, 5, 6}) {
                KeyMeeting m = stage.make();
                String before = Seen.of(m);
                for (int i = 0; i < 8; i++) {
                    m.number(what, i, 0x1234 + i);
                }
                CHECK.due(stage + ": number " + what + " is told", Seen.of(m), before);
            }
        }
    }

    /** "IndexOutOfBoundsException when what is not 0 .. 6" */
    private static void wrongWhat() {
        KeyMeeting m = new KeyMeeting();
        for (int what : new int[] {-1, 7, 8, Integer.MIN_VALUE, Integer.MAX_VALUE}) {
            for (int i : new int[] {-1, 0, 7, 8}) {
                CHECK.dueIndex("number " + what + " " + i, () -> m.number(what, i, 1));
            }
        }
    }

    /** ", or i not 0 .. 7" */
    private static void wrongWord() {
        KeyMeeting m = new KeyMeeting();
        for (int i : new int[] {-1, 8, 9, Integer.MIN_VALUE, Integer.MAX_VALUE}) {
            for (int what = 0; what < 7; what++) {
                int number = what;
                CHECK.dueIndex("number " + number + " " + i, () -> m.number(number, i, 1));
            }
        }
    }

    private static void refusedCallsChangeNothing() {
        for (Stage stage : Stage.values()) {
            KeyMeeting m = stage.make();
            String before = Seen.of(m);
            refuseAll(m);
            CHECK.due(stage + ": refused calls", Seen.of(m), before);
        }
        Pair pair = new Pair(CHECK, "refused").tell(Examples.great());
        refuseAll(pair.real);
        CHECK.due("offer", pair.offer(), 1);
        refuseAll(pair.real);
        CHECK.due("answer", pair.answer(), 1);
        refuseAll(pair.real);
        CHECK.due("accept", pair.accept(), 1);
        pair.compare();
    }

    private static void refuseAll(KeyMeeting m) {
        for (int what = 0; what < 7; what++) {
            int number = what;
            CHECK.dueIndex("number " + number + " -1", () -> m.number(number, -1, 7));
            CHECK.dueIndex("number " + number + " 8", () -> m.number(number, 8, 7));
        }
        for (int i = 0; i < 8; i++) {
            int word = i;
            CHECK.dueIndex("number -1 " + word, () -> m.number(-1, word, 7));
            CHECK.dueIndex("number 7 " + word, () -> m.number(7, word, 7));
        }
    }
}
