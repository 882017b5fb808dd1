/** Promise 3: small. */
final class SmallTest {
    private static final Check CHECK = new Check();
    private static final long[] VALUES = {0, 1, 2, 3, 4, 5, 0x7fffffffL, 0x80000000L, 0xffffffffL, 0x100000000L,
        0x123456789abcdef0L, Long.MAX_VALUE - 1, Long.MAX_VALUE};

    public static void main(String[] args) {
        valuesFillTwoWords();
        meetingsFollow();
        otherWordsAreNought();
        wrongWhat();
        belowNought();
        refusedCallsChangeNothing();
        CHECK.end();
    }

    /** "Number what is a number from 0 on": with x = 1 what is sent as X is G itself. */
    private static void valuesFillTwoWords() {
        for (long v : VALUES) {
            KeyMeeting m = Examples.told(Big.MAX, Big.MAX, Big.of(5), Big.of(11), Big.ONE);
            m.small(1, v);
            CHECK.due("offer with G = " + v, m.offer(), v >= 2 ? 1 : KeyMeeting.BAD);
            Big.due(CHECK, "X", Big.sent(m, 0), v >= 2 ? Big.of(v) : Big.ZERO);
        }
    }

    private static void meetingsFollow() {
        for (long v : VALUES) {
            for (int what = 0; what < 7; what++) {
                Pair pair = new Pair(CHECK, "small " + what + " " + v).tell(Examples.great());
                pair.small(what, v);
                pair.offer();
                pair.answer();
                pair.accept();
                pair.compare();
            }
        }
    }

    /** "its other words are 0": each of the seven, when all its words were told before. */
    private static void otherWordsAreNought() {
        for (int what = 0; what < 7; what++) {
            for (int i = 0; i < 8; i++) {
                Pair pair = new Pair(CHECK, "word " + i + " of " + what).tell(Examples.little());
                pair.word(what, i, -1);
                pair.small(what, Examples.little()[what].longValue());
                CHECK.due("offer", pair.offer(), 1);
                CHECK.due("answer", pair.answer(), 1);
                CHECK.due("accept", pair.accept(), 1);
                pair.compare();
            }
        }
    }

    /** "IndexOutOfBoundsException": for what, as by number; it is looked at before v. */
    private static void wrongWhat() {
        KeyMeeting m = new KeyMeeting();
        for (int what : new int[] {-1, 7, 8, Integer.MIN_VALUE, Integer.MAX_VALUE}) {
            for (long v : new long[] {0, 1, Long.MAX_VALUE, -1, Long.MIN_VALUE}) {
                CHECK.dueIndex("small " + what + " " + v, () -> m.small(what, v));
            }
        }
    }

    /** "IllegalArgumentException when v is below 0" */
    private static void belowNought() {
        KeyMeeting m = new KeyMeeting();
        for (int what = 0; what < 7; what++) {
            int number = what;
            for (long v : new long[] {-1, -2, Integer.MIN_VALUE, -0x100000000L, Long.MIN_VALUE}) {
                CHECK.dueArgument("small " + number + " " + v, () -> m.small(number, v));
            }
            m.small(number, 0);
        }
    }

    private static void refusedCallsChangeNothing() {
        for (Stage stage : Stage.values()) {
            KeyMeeting m = stage.make();
            String before = Seen.of(m);
            refuseAll(m);
            CHECK.due(stage + ": refused calls", Seen.of(m), before);
        }
        Pair pair = new Pair(CHECK, "refused").tell(Examples.great());
        refuseAll(pair.real);
        CHECK.due("offer", pair.offer(), 1);
        refuseAll(pair.real);
        CHECK.due("answer", pair.answer(), 1);
        refuseAll(pair.real);
        CHECK.due("accept", pair.accept(), 1);
        pair.compare();
    }

    private static void refuseAll(KeyMeeting m) {
        for (int what = 0; what < 7; what++) {
            int number = what;
            CHECK.dueArgument("small " + number + " -1", () -> m.small(number, -1));
        }
        CHECK.dueIndex("small -1", () -> m.small(-1, 7));
        CHECK.dueIndex("small 7", () -> m.small(7, 7));
    }
}
