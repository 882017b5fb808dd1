/** What it is: "An object is used for at most 512 calls": all promises hold up to the 512th. */
final class LimitTest {
    private static final Check CHECK = new Check();

    public static void main(String[] args) {
        meetingsUpToTheLastCall();
        dearCallsUpToTheLast();
        CHECK.end();
    }

    private static void meetingsUpToTheLastCall() {
        KeyMeeting m = new KeyMeeting();
        long[] little = {23, 5, 5, 11, 6, 15, 55};
        for (int what = 0; what < 7; what++) {
            m.small(what, little[what]);
        }
        for (int call = 8; call + 4 <= 511; call += 4) {
            m.begin();
            CHECK.due("offer, call " + (call + 1), m.offer(), 1);
            CHECK.due("answer, call " + (call + 2), m.answer(), 1);
            CHECK.due("accept, call " + (call + 3), m.accept(), 1);
        }
        CHECK.due("state, call 508", m.state(), 3);
        CHECK.due("alter, call 509", m.alter(0, 0, 1), 0);
        CHECK.due("secret, call 510", m.secret(7), 33);
        CHECK.due("sent, call 511", m.sent(2, 7), 19);
        CHECK.due("key, call 512", m.key(1, 15), 0xaf9bbb9e);
    }

    private static void dearCallsUpToTheLast() {
        KeyMeeting m = Examples.told(Examples.great());
        for (int call = 57; call + 4 <= 512; call += 4) {
            m.begin();
            CHECK.due("three steps", m.offer() + m.answer() + m.accept(), 3);
        }
        CHECK.due("key", m.key(0, 0), 0x4dae69de);
    }
}
