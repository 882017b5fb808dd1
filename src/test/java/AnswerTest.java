import java.math.BigInteger;

/** Promise 5: answer. */
final class AnswerTest {
    private static final Check CHECK = new Check();

    public static void main(String[] args) {
        sendsNAndYAndS();
        faultOfX();
        faultsLeaveTheWay();
        badNumbers();
        notTheNextStep();
        CHECK.end();
    }

    private static void sendsNAndYAndS() {
        BigInteger[][] all = {
            Examples.little(), Examples.great(), Examples.of(29, 2, 3, 3, 3, 4), Examples.of(1000, 3, 4, 6, 7, 0),
            {Big.MAX, Big.TWO, Big.TWO.pow(128).subtract(Big.ONE), Big.of(3), Examples.X, Big.MAX},
            {Big.P255, Big.of(9), Big.TWO.pow(128).subtract(Big.ONE), Big.TWO.pow(128).subtract(Big.ONE), Big.ONE,
                Big.ONE},
        };
        for (BigInteger[] numbers : all) {
            Pair pair = new Pair(CHECK, "answer").tell(numbers);
            CHECK.due("offer", pair.offer(), 1);
            CHECK.due("answer", pair.answer(), 1);
            CHECK.due("state", pair.real.state(), 2);
            pair.compare();
        }
        KeyMeeting m = Examples.answered(Examples.little());
        CHECK.due("N", m.sent(1, 7), 55);
        CHECK.due("Y", m.sent(2, 7), 19);
    }

    /** The same X, once in its range and once out of it, by what the way makes of it. */
    private static void faultOfX() {
        int[] came = {0, 1, 2, 3, 20, 21, 22, 23, 24, -1};
        for (int x : came) {
            KeyMeeting m = Examples.offered(Examples.little());
            m.alter(0, 7, 8 ^ x);
            boolean fit = x >= 2 && x <= 21;
            CHECK.due("answer to " + x, m.answer(), fit ? 1 : -1);
            CHECK.due("state", m.state(), fit ? 2 : -1);
            CHECK.due("X as it came", m.sent(0, 7), x);
        }
        KeyMeeting high = Examples.offered(Examples.little());
        high.alter(0, 0, 1);
        CHECK.due("answer to a great X", high.answer(), -1);
        KeyMeeting otherGroup = Examples.offered(Examples.little());
        otherGroup.small(0, 9);
        CHECK.due("X is above the new P - 2", otherGroup.answer(), -1);
        Pair narrower = new Pair(CHECK, "narrower group").tell(Examples.little());
        narrower.offer();
        narrower.small(0, 10);
        CHECK.due("X is the new P - 2", narrower.answer(), 1);
        narrower.compare();
    }

    private static void faultsLeaveTheWay() {
        KeyMeeting m = Examples.offered(Examples.of(23, 5, 5, 11, 0, 15, 55));
        CHECK.due("answer", m.answer(), -1);
        CHECK.due("N", m.sent(1, 7), 0);
        CHECK.due("Y", m.sent(2, 7), 0);
        CHECK.due("alter", m.alter(0, 7, 1) + m.alter(1, 7, 1), 0);
        CHECK.due("answer again", m.answer(), KeyMeeting.STATE);
        CHECK.due("accept", m.accept(), KeyMeeting.STATE);
    }

    private static void badNumbers() {
        long[][] bad = {{0, 4}, {1, 1}, {1, 22}, {2, 2}, {3, 0}, {2, 65538}, {3, 65538}};
        for (long[] change : bad) {
            Pair pair = new Pair(CHECK, "bad " + change[0] + " " + change[1]).tell(Examples.little());
            pair.offer();
            pair.alter(0, 7, 3);
            pair.small((int) change[0], change[1]);
            CHECK.due("answer", pair.answer(), KeyMeeting.BAD);
            CHECK.due("state", pair.real.state(), 1);
            pair.compare();
            pair.small((int) change[0], Examples.little()[(int) change[0]].longValue());
            CHECK.due("answer when mended", pair.answer(), 1);
            pair.compare();
        }
        KeyMeeting m = Examples.offered(Examples.of(23, 5, 5, 11, 0, 15));
        m.small(0, 4);
        CHECK.due("BAD goes before the fault", m.answer(), KeyMeeting.BAD);
    }

    private static void notTheNextStep() {
        KeyMeeting begun = Examples.told(Examples.little());
        CHECK.due("answer before offer", begun.answer(), KeyMeeting.STATE);
        CHECK.due("state", begun.state(), 0);
        KeyMeeting answered = Examples.answered(Examples.little());
        answered.small(0, 0);
        CHECK.due("answer behind answer", answered.answer(), KeyMeeting.STATE);
        CHECK.due("answer behind accept", Examples.agreed(Examples.little()).answer(), KeyMeeting.STATE);
        CHECK.due("answer to nothing", new KeyMeeting().answer(), KeyMeeting.STATE);
    }
}
