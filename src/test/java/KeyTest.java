/** Promise 9: key. */
final class KeyTest {
    private static final Check CHECK = new Check();

    /** By sha256 over the bytes of K = 2, of the hash and of 65, or 66, reckoned outside of this project. */
    private static final int[] LITTLE = {
        0x6bf7e89b, 0x06f74db2, 0xbf02e192, 0x9f3548ca, 0x733945a7, 0xd46de092, 0xa2c054b8, 0x31946ec4,
        0xfd8b9fb5, 0x05e301a6, 0x78954315, 0x462d6a70, 0x58a76f7e, 0x7a9d7bf5, 0xdf5ed17a, 0xaf9bbb9e,
    };

    public static void main(String[] args) {
        sixteenWordsForEachSide();
        keysOfEachMeeting();
        keysStayWhatElseIsCalled();
        noneUnlessBothAgreed();
        noneBehindKeysOfBefore();
        wrongSide();
        wrongWord();
        CHECK.end();
    }

    /** "Word i (0 .. 15) of the keys of a side (0 the client, 1 the server)" */
    private static void sixteenWordsForEachSide() {
        KeyMeeting m = Stage.AGREED.make();
        dueLittle("keys", m);
    }

    private static void dueLittle(String when, KeyMeeting m) {
        for (int side = 0; side < 2; side++) {
            for (int i = 0; i < 16; i++) {
                CHECK.due(when + ": key " + side + " " + i, m.key(side, i), LITTLE[i]);
            }
        }
    }

    private static void keysOfEachMeeting() {
        Pair pair = new Pair(CHECK, "keys").tell(Examples.great());
        pair.offer();
        pair.answer();
        pair.accept();
        pair.compare();
        pair.small(4, 1);
        pair.small(5, 2);
        pair.begin();
        pair.offer();
        pair.answer();
        pair.accept();
        pair.compare();
    }

    private static void keysStayWhatElseIsCalled() {
        KeyMeeting m = Stage.AGREED.make();
        m.offer();
        m.answer();
        m.accept();
        m.alter(0, 0, 1);
        m.alter(3, 7, 1);
        m.secret(0);
        for (int what = 0; what < 7; what++) {
            m.small(what, 77);
        }
        dueLittle("told anew", m);
        m.small(0, 0);
        m.offer();
        m.accept();
        dueLittle("told badly", m);
    }

    /** "IllegalStateException when they have none (the server has them with accept, too)" */
    private static void noneUnlessBothAgreed() {
        hasNone("new", new KeyMeeting());
        for (Stage stage : Stage.values()) {
            if (stage != Stage.AGREED) {
                hasNone(stage.toString(), stage.make());
            }
        }
        KeyMeeting bad = Stage.ANSWERED.make();
        bad.small(0, 4);
        bad.accept();
        hasNone("behind a bad accept", bad);
    }

    private static void noneBehindKeysOfBefore() {
        KeyMeeting m = Stage.AGREED.make();
        m.begin();
        hasNone("begun anew", m);
        m.offer();
        hasNone("offered anew", m);
        m.answer();
        hasNone("answered anew", m);
        m.alter(3, 0, 1);
        m.accept();
        hasNone("a fault behind keys", m);
        m.begin();
        m.offer();
        m.answer();
        m.accept();
        dueLittle("agreed anew", m);
    }

    private static void hasNone(String when, KeyMeeting m) {
        for (int side = 0; side < 2; side++) {
            for (int i = 0; i < 16; i++) {
                int s = side, word = i;
                CHECK.dueState(when + ": key " + side + " " + i, () -> m.key(s, word));
            }
        }
    }

    /** "IndexOutOfBoundsException": whether there are keys or not */
    private static void wrongSide() {
        for (Stage stage : Stage.values()) {
            KeyMeeting m = stage.make();
            for (int side : new int[] {-1, 2, 3, Integer.MIN_VALUE, Integer.MAX_VALUE}) {
                for (int i : new int[] {-1, 0, 15, 16}) {
                    CHECK.dueIndex(stage + ": key " + side + " " + i, () -> m.key(side, i));
                }
            }
        }
    }

    private static void wrongWord() {
        for (Stage stage : Stage.values()) {
            KeyMeeting m = stage.make();
            for (int i : new int[] {-1, 16, 17, Integer.MIN_VALUE, Integer.MAX_VALUE}) {
                CHECK.dueIndex(stage + ": key 0 " + i, () -> m.key(0, i));
                CHECK.dueIndex(stage + ": key 1 " + i, () -> m.key(1, i));
            }
        }
    }
}
