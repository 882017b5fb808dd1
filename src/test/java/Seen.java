/** All that can be seen of a meeting, as a text: the same before and behind a call that changes nothing. */
final class Seen {
    private Seen() {
    }

    /** 73 calls. */
    static String of(KeyMeeting m) {
        StringBuilder text = new StringBuilder("state ").append(m.state());
        for (int what = 0; what < 4; what++) {
            text.append(", sent ").append(what).append(' ').append(Big.sent(m, what));
        }
        text.append(", secret ").append(Big.secret(m)).append(", keys");
        for (int i = 0; i < 32; i++) {
            text.append(' ').append(key(m, i / 16, i % 16));
        }
        return text.toString();
    }

    private static String key(KeyMeeting m, int side, int i) {
        try {
            return Integer.toString(m.key(side, i));
        } catch (IllegalStateException e) {
            return "none";
        }
    }
}
