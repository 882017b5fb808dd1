/** Promise 1: a new object. */
final class NewObjectTest {
    private static final Check CHECK = new Check();

    public static void main(String[] args) {
        nothingIsOnTheWay();
        nothingIsDone();
        eachNumberIsNought();
        eachWordIsNought();
        trustedIsNought();
        objectsAreApart();
        CHECK.end();
    }

    /** "nothing is on the way" */
    private static void nothingIsOnTheWay() {
        KeyMeeting m = new KeyMeeting();
        for (int what = 0; what < 4; what++) {
            for (int i = 0; i < 8; i++) {
                CHECK.due("alter " + what + " " + i, m.alter(what, i, -1), 0);
                CHECK.due("sent " + what + " " + i, m.sent(what, i), 0);
            }
        }
    }

    private static void nothingIsDone() {
        KeyMeeting m = new KeyMeeting();
        CHECK.due("state", m.state(), 0);
        CHECK.due("answer", m.answer(), KeyMeeting.STATE);
        CHECK.due("accept", m.accept(), KeyMeeting.STATE);
        CHECK.due("offer", m.offer(), KeyMeeting.BAD);
        Big.due(CHECK, "secret", Big.secret(m), Big.ZERO);
        CHECK.dueState("key 0 0", () -> m.key(0, 0));
        CHECK.dueState("key 1 15", () -> m.key(1, 15));
    }

    /** "All numbers are 0": a meeting that is not told one of them goes as if it were told 0. */
    private static void eachNumberIsNought() {
        for (int left = 0; left < 7; left++) {
            Pair pair = new Pair(CHECK, "number " + left + " is not told");
            for (int what = 0; what < 7; what++) {
                if (what != left) {
                    pair.small(what, Examples.little()[what].longValue());
                }
            }
            CHECK.due("offer without " + left, pair.offer(), left < 4 ? KeyMeeting.BAD : 1);
            pair.compare();
            CHECK.due("answer without " + left, pair.answer(), left < 4 ? KeyMeeting.STATE : left == 4 ? -1 : 1);
            pair.compare();
            int[] accepts = {KeyMeeting.STATE, KeyMeeting.STATE, KeyMeeting.STATE, KeyMeeting.STATE, KeyMeeting.STATE,
                -1, -2};
            CHECK.due("accept without " + left, pair.accept(), accepts[left]);
            pair.compare();
        }
    }

    private static void eachWordIsNought() {
        Pair pair = new Pair(CHECK, "word 7 alone is told");
        for (int what = 0; what < 7; what++) {
            pair.word(what, 7, Examples.little()[what].intValue());
        }
        CHECK.due("offer", pair.offer(), 1);
        CHECK.due("answer", pair.answer(), 1);
        CHECK.due("accept", pair.accept(), 1);
        pair.compare();
    }

    private static void trustedIsNought() {
        KeyMeeting m = Examples.answered(Examples.of(23, 5, 5, 11, 6, 15));
        m.alter(1, 7, 55);
        CHECK.due("N = 0 is trusted, no S is below it", m.accept(), -3);
        KeyMeeting one = Examples.answered(Examples.of(23, 5, 5, 11, 6, 15));
        one.alter(1, 7, 55 ^ 1);
        CHECK.due("N = 1 is not trusted", one.accept(), -2);
    }

    private static void objectsAreApart() {
        String fresh = Seen.of(new KeyMeeting());
        KeyMeeting before = new KeyMeeting();
        KeyMeeting a = Examples.agreed(Examples.great());
        CHECK.due("a", a.state(), 3);
        CHECK.due("one made before", Seen.of(before), fresh);
        CHECK.due("one made behind", Seen.of(new KeyMeeting()), fresh);
    }
}
