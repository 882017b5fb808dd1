import java.math.BigInteger;

/** A KeyMeeting and a Model that take the same calls; every difference is told. */
final class Pair {
    final KeyMeeting real = new KeyMeeting();
    final Model model = new Model();
    private final Check check;
    private final String name;
    private int calls = 0;

    Pair(Check check, String name) {
        this.check = check;
        this.name = name;
    }

    Pair tell(BigInteger... numbers) {
        for (int what = 0; what < numbers.length; what++) {
            number(what, numbers[what]);
        }
        return this;
    }

    Pair number(int what, BigInteger v) {
        count(8);
        Big.tell(real, what, v);
        model.told[what] = v;
        return this;
    }

    void word(int what, int i, int v) {
        count(1);
        real.number(what, i, v);
        model.told[what] = Big.withWord(model.told[what], i, v);
    }

    void small(int what, long v) {
        count(1);
        real.small(what, v);
        model.told[what] = Big.of(v);
    }

    int offer() {
        return same("offer", real.offer(), model.offer());
    }

    int answer() {
        return same("answer", real.answer(), model.answer());
    }

    int accept() {
        return same("accept", real.accept(), model.accept());
    }

    int alter(int what, int i, int mask) {
        return same("alter " + what + " " + i, real.alter(what, i, mask), model.alter(what, i, mask));
    }

    /** Alters what is on the way until it is v. */
    void makeSent(int what, BigInteger v) {
        for (int i = 0; i < 8; i++) {
            alter(what, i, Big.word(model.sent[what], i) ^ Big.word(v, i));
        }
    }

    void begin() {
        count(1);
        real.begin();
        model.begin();
    }

    void state() {
        same("state", real.state(), model.state);
    }

    /** Some calls may still be made, 512 in all: what later ones answer is free. */
    boolean hasRoomFor(int more) {
        return calls + more <= 512;
    }

    void compare() {
        state();
        count(40);
        for (int what = 0; what < 4; what++) {
            Big.due(check, name + ": sent " + what, Big.sent(real, what), model.sent[what]);
        }
        Big.due(check, name + ": secret", Big.secret(real), model.secret());
        for (int side = 0; side < 2; side++) {
            for (int i = 0; i < 16; i++) {
                compareKey(side, i);
            }
        }
    }

    private void compareKey(int side, int i) {
        String call = "key " + side + " " + i;
        if (model.hasKeys()) {
            same(call, real.key(side, i), model.key(side, i));
        } else {
            count(1);
            check.dueState(name + ": " + call, () -> real.key(side, i));
        }
    }

    private int same(String call, int got, int want) {
        count(1);
        check.due(name + ": " + call, got, want);
        return got;
    }

    private void count(int more) {
        if (!hasRoomFor(more)) {
            check.tell(name + ": this test makes more than 512 calls");
        }
        calls += more;
    }
}
