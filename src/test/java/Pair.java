import java.math.BigInteger;

/** A KeyMeeting and a Model that take the same calls; every difference is told. */
final class Pair {
    final KeyMeeting real = new KeyMeeting();
    final Model model = new Model();
    private final Check check;
    private final String name;

    Pair(Check check, String name) {
        this.check = check;
        this.name = name;
    }

    Pair tell(BigInteger... numbers) {
        for (int what = 0; what < numbers.length; what++) {
            number(what, numbers[what]);
        }
        return this;
    }

    Pair number(int what, BigInteger v) {
        Big.tell(real, what, v);
        model.told[what] = v;
        return this;
    }

    void word(int what, int i, int v) {
        real.number(what, i, v);
        model.told[what] = Big.withWord(model.told[what], i, v);
    }

    void small(int what, long v) {
        real.small(what, v);
        model.told[what] = Big.of(v);
    }

    int offer() {
        return same("offer", real.offer(), model.offer());
    }

    int answer() {
        return same("answer", real.answer(), model.answer());
    }

    int accept() {
        return same("accept", real.accept(), model.accept());
    }

    int alter(int what, int i, int mask) {
        return same("alter " + what + " " + i, real.alter(what, i, mask), model.alter(what, i, mask));
    }

    void begin() {
        real.begin();
        model.state = 0;
    }

    void compare() {
        same("state", real.state(), model.state);
        for (int what = 0; what < 4; what++) {
            Big.due(check, name + ": sent " + what, Big.sent(real, what), model.sent[what]);
        }
        Big.due(check, name + ": secret", Big.secret(real), model.secret());
        for (int side = 0; side < 2; side++) {
            for (int i = 0; i < 16; i++) {
                compareKey(side, i);
            }
        }
    }

    private void compareKey(int side, int i) {
        String call = "key " + side + " " + i;
        if (model.hasKeys()) {
            same(call, real.key(side, i), model.key(side, i));
        } else {
            check.dueState(name + ": " + call, () -> real.key(side, i));
        }
    }

    private int same(String call, int got, int want) {
        check.due(name + ": " + call, got, want);
        return got;
    }
}
