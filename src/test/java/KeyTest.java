/** Promise 9: key. */
final class KeyTest {
    private static final Check CHECK = new Check();

    public static void main(String[] args) {
        sixteenWordsForEachSide();
        knownWords();
        noneBeforeAndNoneBehindFaults();
        wrongIndexes();
        CHECK.end();
    }

    private static void sixteenWordsForEachSide() {
        Pair pair = new Pair(CHECK, "keys").tell(Examples.great());
        pair.offer();
        pair.compare();
        pair.answer();
        pair.compare();
        pair.accept();
        pair.compare();
        pair.small(4, 1);
        pair.small(5, 1);
        pair.compare();
        pair.begin();
        pair.compare();
        pair.offer();
        pair.answer();
        pair.accept();
        pair.compare();
    }

    /** By sha256 over the bytes of K = 2, of the hash and of 65, or 66, reckoned outside of this project. */
    private static void knownWords() {
        KeyMeeting m = Examples.agreed(Examples.little());
        int[] want = {
            0x6bf7e89b, 0x06f74db2, 0xbf02e192, 0x9f3548ca, 0x733945a7, 0xd46de092, 0xa2c054b8, 0x31946ec4,
            0xfd8b9fb5, 0x05e301a6, 0x78954315, 0x462d6a70, 0x58a76f7e, 0x7a9d7bf5, 0xdf5ed17a, 0xaf9bbb9e,
        };
        for (int i = 0; i < 16; i++) {
            CHECK.due("key 0 " + i, m.key(0, i), want[i]);
            CHECK.due("key 1 " + i, m.key(1, i), want[i]);
        }
    }

    private static void noneBeforeAndNoneBehindFaults() {
        hasNone("new", new KeyMeeting());
        hasNone("offered", Examples.offered(Examples.little()));
        hasNone("answered", Examples.answered(Examples.little()));
        hasNone("a fault", Examples.agreed(Examples.of(23, 5, 5, 11, 6, 15, 54)));
        KeyMeeting anew = Examples.agreed(Examples.little());
        anew.begin();
        hasNone("begun anew", anew);
        anew.offer();
        anew.answer();
        hasNone("answered anew", anew);
        anew.alter(3, 0, 1);
        anew.accept();
        hasNone("a fault behind keys", anew);
    }

    private static void hasNone(String when, KeyMeeting m) {
        for (int side = 0; side < 2; side++) {
            for (int i = 0; i < 16; i++) {
                int s = side, word = i;
                CHECK.dueState(when + ": key " + side + " " + i, () -> m.key(s, word));
            }
        }
    }

    private static void wrongIndexes() {
        KeyMeeting[] all = {new KeyMeeting(), Examples.agreed(Examples.little())};
        for (KeyMeeting m : all) {
            for (int side : new int[] {-1, 2, Integer.MIN_VALUE, Integer.MAX_VALUE}) {
                CHECK.dueIndex("key " + side, () -> m.key(side, 0));
            }
            for (int i : new int[] {-1, 16, Integer.MIN_VALUE, Integer.MAX_VALUE}) {
                CHECK.dueIndex("key 0 " + i, () -> m.key(0, i));
                CHECK.dueIndex("key 1 " + i, () -> m.key(1, i));
            }
        }
    }
}
