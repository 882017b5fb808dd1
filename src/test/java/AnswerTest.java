import java.math.BigInteger;

/** Promise 5: answer, and ANSWER in the terms. */
final class AnswerTest {
    private static final Check CHECK = new Check();

    public static void main(String[] args) {
        sendsNAndYAndS();
        everyXOfItsOwn();
        everyXThatCame();
        rangeIsOfTheGroupOfNow();
        hashIsOfXAsItCame();
        faultSendsNothing();
        badChangesNothing();
        goodNumbersAtTheirEdges();
        badGoesBeforeTheFault();
        CHECK.end();
    }

    /** "N, Y, S go on the way" */
    private static void sendsNAndYAndS() {
        BigInteger half = Big.TWO.pow(128);
        BigInteger[][] all = {
            Examples.little(), Examples.great(), Examples.of(29, 2, 3, 3, 3, 4), Examples.of(1000, 3, 4, 6, 7, 0),
            {Big.MAX, Big.TWO, half.subtract(Big.ONE), Big.of(3), Examples.X, Big.MAX},
            {Big.P255, Big.of(9), half.subtract(Big.ONE), half.subtract(Big.ONE), Big.ONE, Big.ONE},
        };
        for (BigInteger[] numbers : all) {
            Pair pair = new Pair(CHECK, "answer").tell(numbers);
            CHECK.due("offer", pair.offer(), 1);
            CHECK.due("answer", pair.answer(), 1);
            CHECK.due("state", pair.real.state(), 2);
            pair.compare();
            for (int what = 0; what < 4; what++) {
                CHECK.due(what + " is on the way", pair.alter(what, 0, 0), what == 0 ? 0 : 1);
            }
        }
        KeyMeeting m = Examples.answered(Examples.little());
        CHECK.due("N", m.sent(1, 7), 55);
        CHECK.due("Y", m.sent(2, 7), 19);
        CHECK.due("S", m.sent(3, 7), 35);
    }

    /** "fault 1 (the server's) unless it is from 2 to P - 2": 5 generates all of 1 .. 22 modulo 23. */
    private static void everyXOfItsOwn() {
        for (int x = 0; x < 22; x++) {
            KeyMeeting m = Examples.offered(Examples.of(23, 5, 5, 11, x, 15, 55));
            int sent = m.sent(0, 7);
            boolean fit = sent >= 2 && sent <= 21;
            CHECK.due("answer to " + sent, m.answer(), fit ? 1 : -1);
            CHECK.due("state", m.state(), fit ? 2 : -1);
        }
        CHECK.due("answer to 0", Examples.offered(Examples.of(8, 2, 5, 11, 3, 15)).answer(), -1);
    }

    /** "the server takes X as it came": whatever the way has made of it. */
    private static void everyXThatCame() {
        for (BigInteger group : Big.GROUPS) {
            for (BigInteger x : Big.aroundTheRange(group)) {
                Pair pair = new Pair(CHECK, "X came as " + x + " modulo " + group);
                pair.tell(group, Big.TWO, Big.of(5), Big.of(11), Big.ONE, Big.of(3));
                pair.offer();
                pair.makeSent(0, x);
                CHECK.due("answer to " + x + " modulo " + group, pair.answer(),
                    Big.isFrom2ToPMinus2(x, group) ? 1 : -1);
                pair.compare();
            }
        }
    }

    private static void rangeIsOfTheGroupOfNow() {
        int[] groups = {7, 8, 9, 10, 11};
        for (int group : groups) {
            Pair pair = new Pair(CHECK, "8 in the group " + group).tell(Examples.little());
            pair.offer();
            pair.small(0, group);
            CHECK.due("answer to 8 modulo " + group, pair.answer(), group >= 10 ? 1 : -1);
            pair.compare();
        }
    }

    /** "the HASH is the digest of the words of P, G, N, X (as it came), Y, K" */
    private static void hashIsOfXAsItCame() {
        for (int i = 0; i < 8; i++) {
            Pair pair = new Pair(CHECK, "word " + i + " of X altered").tell(Examples.great());
            pair.offer();
            pair.alter(0, i, 1);
            CHECK.due("answer", pair.answer(), 1);
            pair.compare();
        }
    }

    /** With the fault nothing is sent: N, Y and S are as they were. */
    private static void faultSendsNothing() {
        KeyMeeting m = Examples.offered(Examples.of(23, 5, 5, 11, 0, 15, 55));
        CHECK.due("answer", m.answer(), -1);
        for (int what = 1; what < 4; what++) {
            Big.due(CHECK, "sent " + what, Big.sent(m, what), Big.ZERO);
        }
        KeyMeeting second = Stage.AGREED.make();
        second.begin();
        second.small(4, 0);
        second.small(5, 2);
        second.small(2, 3);
        second.offer();
        BigInteger[] before = {Big.sent(second, 0), Big.sent(second, 1), Big.sent(second, 2), Big.sent(second, 3)};
        CHECK.due("answer", second.answer(), -1);
        for (int what = 0; what < 4; what++) {
            Big.due(CHECK, "sent " + what, Big.sent(second, what), before[what]);
        }
    }

    /** "BAD when the numbers are not as OFFER wants them (nothing changes)" */
    private static void badChangesNothing() {
        for (BigInteger[] change : BadNumbers.bad()) {
            String name = "number " + change[0] + " is " + change[1];
            Pair pair = new Pair(CHECK, name).tell(Examples.little());
            int what = change[0].intValue();
            pair.offer();
            pair.alter(0, 7, 3);
            pair.number(what, change[1]);
            String before = Seen.of(pair.real);
            CHECK.due(name + ": answer", pair.answer(), KeyMeeting.BAD);
            CHECK.due(name, Seen.of(pair.real), before);
            CHECK.due(name + ": X is still on the way", pair.alter(0, 7, 1), 1);
            CHECK.due(name + ": accept", pair.accept(), KeyMeeting.STATE);
            pair.number(what, Examples.little()[what]);
            CHECK.due(name + ": answer when mended", pair.answer(), 1);
            pair.compare();
        }
    }

    private static void goodNumbersAtTheirEdges() {
        for (BigInteger[] change : BadNumbers.good()) {
            String name = "number " + change[0] + " is " + change[1];
            Pair pair = new Pair(CHECK, name).tell(Examples.little());
            pair.small(4, 1);
            pair.offer();
            pair.number(change[0].intValue(), change[1]);
            CHECK.due(name + ": answer", pair.answer(), 1);
            pair.compare();
        }
    }

    private static void badGoesBeforeTheFault() {
        for (BigInteger[] change : BadNumbers.bad()) {
            KeyMeeting m = Examples.offered(Examples.of(23, 5, 5, 11, 0, 15));
            Big.tell(m, change[0].intValue(), change[1]);
            CHECK.due("number " + change[0] + " is " + change[1] + ": answer", m.answer(), KeyMeeting.BAD);
            CHECK.due("state", m.state(), 1);
        }
    }
}
