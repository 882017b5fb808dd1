import java.math.BigInteger;

/** Promise 6: accept, and ACCEPT in the terms. */
final class AcceptTest {
    private static final Check CHECK = new Check();

    public static void main(String[] args) {
        accepts(Examples.little());
        accepts(Examples.great());
        accepts(Examples.of(5, 2, 3, 5, 1, 3, 15));
        nIsWhatItTrusts();
        alteredNIsWhatItTrusts();
        everyYOfItsOwn();
        everyYThatCame();
        rangeIsOfTheGroupOfNow();
        sIsBelowN();
        sIsTheRightOne();
        hostThatCannotSign();
        theLeastN();
        orderOfFaults();
        clientTakesItsOwnX();
        clientKeepsTheXItSent();
        clientTakesNumbersOfNow();
        badChangesNothing();
        goodNumbersAtTheirEdges();
        badGoesBeforeTheFaults();
        CHECK.end();
    }

    private static void accepts(BigInteger[] numbers) {
        Pair pair = new Pair(CHECK, "accepts").tell(numbers);
        pair.offer();
        pair.answer();
        CHECK.due("accept", pair.accept(), 1);
        CHECK.due("state", pair.real.state(), 3);
        pair.compare();
        for (int i = 0; i < 16; i++) {
            CHECK.due("both have the same", pair.real.key(0, i), pair.real.key(1, i));
        }
    }

    private static void dueAccept(String call, KeyMeeting m, int due) {
        CHECK.due(call + ": accept", m.accept(), due);
        CHECK.due(call + ": state", m.state(), due == 1 ? 3 : due);
    }

    /** "fault 2 unless N is what it trusts": all its words, and one more or less is another. */
    private static void nIsWhatItTrusts() {
        for (int i = 0; i < 8; i++) {
            for (int mask : new int[] {1, Integer.MIN_VALUE}) {
                KeyMeeting m = Examples.answered(Examples.great());
                m.alter(1, i, mask);
                dueAccept("N altered in word " + i, m, -2);
                KeyMeeting other = Examples.answered(Examples.great());
                other.number(6, i, Big.word(Examples.N, i) ^ mask);
                dueAccept("another is trusted by word " + i, other, -2);
            }
        }
        for (int trusted = 53; trusted <= 57; trusted++) {
            KeyMeeting m = Examples.answered(Examples.of(23, 5, 5, 11, 6, 15, trusted));
            dueAccept("55 when " + trusted + " is trusted", m, trusted == 55 ? 1 : -2);
        }
    }

    private static void alteredNIsWhatItTrusts() {
        for (BigInteger n : new BigInteger[] {Big.of(54), Big.of(56), Big.TWO.pow(255), Big.MAX}) {
            Pair pair = new Pair(CHECK, "N came as " + n).tell(Examples.little());
            pair.number(6, n);
            pair.offer();
            pair.answer();
            pair.makeSent(1, n);
            CHECK.due("trusted, but not signed", pair.accept(), -3);
            pair.compare();
        }
        KeyMeeting twice = Examples.answered(Examples.little());
        twice.alter(1, 0, 7);
        twice.alter(1, 0, 7);
        dueAccept("N altered and altered back", twice, 1);
    }

    /** "fault 1 unless Y is from 2 to P - 2": 5 generates all of 1 .. 22 modulo 23. */
    private static void everyYOfItsOwn() {
        for (int y = 0; y < 22; y++) {
            KeyMeeting m = Examples.answered(Examples.of(23, 5, 5, 11, 6, y, 55));
            int sent = m.sent(2, 7);
            dueAccept("Y = " + sent, m, sent >= 2 && sent <= 21 ? 1 : -1);
        }
        dueAccept("Y = 0", Examples.answered(Examples.of(16, 2, 5, 11, 1, 4, 55)), -1);
        BigInteger highestG = Big.MAX.subtract(Big.TWO);
        BigInteger[] highest = {Big.MAX, highestG, Big.of(5), Big.of(11), Big.of(3), Big.ONE, Big.of(55)};
        dueAccept("Y = P - 2", Examples.answered(highest), 1);
    }

    /** "the client takes them as they came": an altered Y in its range does not fit the hash, but is no fault 1. */
    private static void everyYThatCame() {
        for (BigInteger group : Big.GROUPS) {
            for (BigInteger y : Big.aroundTheRange(group)) {
                String name = "Y came as " + y + " modulo " + group;
                Pair pair = new Pair(CHECK, name);
                pair.tell(group, Big.TWO, Big.P128, Big.P127, Big.ONE, Big.of(3), Examples.N);
                pair.offer();
                pair.answer();
                boolean altered = !y.equals(pair.model.sent[2]);
                pair.makeSent(2, y);
                int due = !Big.isFrom2ToPMinus2(y, group) ? -1 : altered ? -3 : 1;
                CHECK.due(name + ": accept", pair.accept(), due);
                pair.compare();
            }
        }
    }

    private static void rangeIsOfTheGroupOfNow() {
        for (int group = 18; group <= 23; group++) {
            KeyMeeting m = Examples.answered(Examples.great());
            Big.makeSent(m, 2, Big.of(19));
            m.small(0, group);
            dueAccept("19 modulo " + group, m, group >= 21 ? -3 : -1);
        }
    }

    /** "fault 3 unless S is below N": the powers of S + N and of S are the same, only the bound tells them apart. */
    private static void sIsBelowN() {
        int[][] signed = {{29, 0}, {127, 1}, {49, 54}};
        for (int[] one : signed) {
            BigInteger[] numbers = Examples.of(10007, 5, 5, 11, 6, one[0], 55);
            KeyMeeting m = Examples.answered(numbers);
            Big.due(CHECK, "S", Big.sent(m, 3), Big.of(one[1]));
            dueAccept("S = " + one[1], m, 1);
            for (BigInteger times : new BigInteger[] {Big.ONE, Big.TWO, Big.TWO.pow(32), Big.TWO.pow(249)}) {
                KeyMeeting above = Examples.answered(numbers);
                Big.makeSent(above, 3, times.multiply(Big.of(55)).add(Big.of(one[1])));
                dueAccept("S = " + one[1] + " + 55 times " + times, above, -3);
            }
        }
        KeyMeeting great = Examples.answered(Examples.great());
        Big.makeSent(great, 3, Big.sent(great, 3).add(Examples.N));
        dueAccept("the great S + N", great, -3);
    }

    /** ", and S^E modulo N is the hash modulo N": each other S below N has another power. */
    private static void sIsTheRightOne() {
        for (int s = 0; s <= 60; s++) {
            KeyMeeting m = Examples.answered(Examples.little());
            Big.makeSent(m, 3, Big.of(s));
            dueAccept("S came as " + s, m, s == 35 ? 1 : -3);
        }
        for (int i = 0; i < 8; i++) {
            KeyMeeting m = Examples.answered(Examples.great());
            m.alter(3, i, 1);
            dueAccept("word " + i + " of S altered", m, -3);
        }
    }

    /** N = 9 is divided by a square: most of its hashes have no root that S could be. By the words that is fault 3. */
    private static void hostThatCannotSign() {
        dueAccept("S = 7", Examples.answered(Examples.of(10007, 5, 3, 3, 6, 3, 9)), -3);
        dueAccept("S = 8", Examples.answered(Examples.of(10007, 5, 3, 3, 6, 6, 9)), 1);
    }

    /** Below N = 0 there is no S, below N = 1 there is one. */
    private static void theLeastN() {
        for (int n = 0; n <= 3; n++) {
            for (int s = 0; s <= 3; s++) {
                Pair pair = new Pair(CHECK, "N is " + n + ", S is " + s).tell(Examples.little());
                pair.small(6, n);
                pair.offer();
                pair.answer();
                pair.makeSent(1, Big.of(n));
                pair.makeSent(3, Big.of(s));
                int got = pair.accept();
                if (s >= n) {
                    CHECK.due("S = " + s + " is not below N = " + n, got, -3);
                }
                pair.compare();
            }
        }
        leastN(0, -3);
        leastN(1, 1);
    }

    private static void leastN(int n, int due) {
        KeyMeeting m = Examples.answered(Examples.of(23, 5, 5, 11, 6, 15, n));
        Big.makeSent(m, 1, Big.of(n));
        Big.makeSent(m, 3, Big.ZERO);
        dueAccept("N = " + n + ", S = 0", m, due);
    }

    private static void orderOfFaults() {
        for (int wrong = 0; wrong < 8; wrong++) {
            KeyMeeting m = Examples.answered(Examples.little());
            m.alter(1, 7, wrong & 1);
            m.alter(2, 0, wrong >> 1 & 1);
            m.alter(3, 0, wrong >> 2 & 1);
            int due = (wrong & 1) != 0 ? -2 : (wrong & 2) != 0 ? -1 : (wrong & 4) != 0 ? -3 : 1;
            dueAccept("wrong parts " + wrong, m, due);
        }
    }

    /** "its hash that of P, G, N, X (as it was sent), Y, K": an altered X is found by it. */
    private static void clientTakesItsOwnX() {
        for (int i = 0; i < 8; i++) {
            KeyMeeting m = Examples.offered(Examples.great());
            m.alter(0, i, 1);
            CHECK.due("answer", m.answer(), 1);
            dueAccept("word " + i + " of X altered", m, -3);
        }
        KeyMeeting back = Examples.offered(Examples.great());
        back.alter(0, 3, 5);
        back.alter(0, 3, 5);
        back.answer();
        dueAccept("X altered and altered back", back, 1);
        int passed = 0;
        for (int y = 3; y <= 7; y++) {
            for (int x = 2; x <= 21; x++) {
                passed += passesWithOtherKeys(x, y) ? 1 : 0;
            }
        }
        CHECK.due("some altered X passes a small N", passed > 0 ? 1 : 0, 1);
    }

    /** "each side by its own K and hash" */
    private static boolean passesWithOtherKeys(int x, int y) {
        Pair pair = new Pair(CHECK, "X came as " + x).tell(Examples.of(23, 5, 3, 3, 6, y, 9));
        pair.offer();
        pair.makeSent(0, Big.of(x));
        pair.answer();
        boolean agreed = pair.accept() == 1;
        pair.compare();
        return agreed && pair.real.key(0, 0) != pair.real.key(1, 0);
    }

    /** Y = 2 has the order 11 modulo 23: with x = 6 + 11 K is the same, and only X = G^x would be another. */
    private static void clientKeepsTheXItSent() {
        for (int x = 0; x <= 28; x++) {
            KeyMeeting m = Examples.answered(Examples.of(23, 5, 1000003, 1000033, 6, 2, 1000036000099L));
            CHECK.due("Y", m.sent(2, 7), 2);
            m.small(4, x);
            dueAccept("x is " + x + " by now", m, x % 11 == 6 ? 1 : -3);
        }
    }

    /** "its K is Y^x modulo P": of x, P and G as they are told by now; the host's p and q are not the client's. */
    private static void clientTakesNumbersOfNow() {
        int[][] dues = {{0, -3}, {1, -3}, {2, 1}, {3, 1}, {4, -3}, {5, 1}, {6, -2}};
        for (int[] due : dues) {
            Pair pair = new Pair(CHECK, "number " + due[0] + " told anew").tell(Examples.great());
            pair.offer();
            pair.answer();
            pair.word(due[0], 7, Big.word(pair.model.told[due[0]], 7) ^ 64);
            CHECK.due("accept with number " + due[0] + " told anew", pair.accept(), due[1]);
            pair.compare();
        }
    }

    /** "BAD, as by ANSWER": nothing changes. */
    private static void badChangesNothing() {
        for (BigInteger[] change : BadNumbers.bad()) {
            String name = "number " + change[0] + " is " + change[1];
            Pair pair = new Pair(CHECK, name).tell(Examples.little());
            int what = change[0].intValue();
            pair.offer();
            pair.answer();
            pair.alter(1, 7, 64);
            pair.number(what, change[1]);
            String before = Seen.of(pair.real);
            CHECK.due(name + ": accept", pair.accept(), KeyMeeting.BAD);
            CHECK.due(name, Seen.of(pair.real), before);
            CHECK.due(name + ": N is still on the way", pair.alter(1, 7, 64), 1);
            pair.number(what, Examples.little()[what]);
            CHECK.due(name + ": accept when mended", pair.accept(), 1);
            pair.compare();
        }
    }

    private static void goodNumbersAtTheirEdges() {
        for (BigInteger[] change : BadNumbers.good()) {
            String name = "number " + change[0] + " is " + change[1];
            Pair pair = new Pair(CHECK, name).tell(Examples.little());
            pair.offer();
            pair.answer();
            pair.number(change[0].intValue(), change[1]);
            CHECK.due(name + ": accept is not BAD", pair.accept() == KeyMeeting.BAD ? 1 : 0, 0);
            pair.compare();
        }
    }

    private static void badGoesBeforeTheFaults() {
        for (BigInteger[] change : BadNumbers.bad()) {
            KeyMeeting m = Examples.answered(Examples.of(23, 5, 5, 11, 6, 0, 54));
            m.alter(3, 0, 1);
            Big.tell(m, change[0].intValue(), change[1]);
            CHECK.due("number " + change[0] + " is " + change[1] + ": accept", m.accept(), KeyMeeting.BAD);
            CHECK.due("state", m.state(), 2);
        }
    }
}
