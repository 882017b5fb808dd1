/** Promise 3: small. */
final class SmallTest {
    private static final Check CHECK = new Check();

    public static void main(String[] args) {
        otherWordsAreNought();
        valuesFillTwoWords();
        wrongArguments();
        CHECK.end();
    }

    private static void otherWordsAreNought() {
        long[] values = {23, 5, 5, 11, 6, 15, 55};
        Pair pair = new Pair(CHECK, "other words");
        for (int what = 0; what < 7; what++) {
            pair.number(what, Big.MAX);
            pair.small(what, values[what]);
        }
        CHECK.due("offer", pair.offer(), 1);
        CHECK.due("X", pair.real.sent(0, 7), 8);
        CHECK.due("answer", pair.answer(), 1);
        CHECK.due("Y", pair.real.sent(2, 7), 19);
        CHECK.due("accept", pair.accept(), 1);
        pair.compare();
    }

    private static void valuesFillTwoWords() {
        long[] values = {0, 1, 2, 3, 0x7fffffffL, 0x80000000L, 0xffffffffL, 0x100000000L, 0x123456789abcdef0L,
            Long.MAX_VALUE};
        for (long v : values) {
            for (int what = 0; what < 7; what++) {
                Pair pair = new Pair(CHECK, "small " + what + " " + v).tell(Examples.great());
                pair.small(what, v);
                pair.offer();
                pair.answer();
                pair.accept();
                pair.compare();
            }
        }
    }

    private static void wrongArguments() {
        KeyMeeting m = Examples.told(Examples.little());
        for (int what : new int[] {-1, 7, Integer.MIN_VALUE, Integer.MAX_VALUE}) {
            CHECK.dueIndex("small " + what, () -> m.small(what, 1));
            CHECK.dueIndex("small " + what + " below 0", () -> m.small(what, -1));
        }
        for (int what = 0; what < 7; what++) {
            int number = what;
            CHECK.dueArgument("small below 0", () -> m.small(number, -1));
            CHECK.dueArgument("small at its lowest", () -> m.small(number, Long.MIN_VALUE));
        }
        CHECK.due("nothing changed", m.offer() + m.answer() + m.accept(), 3);
    }
}
