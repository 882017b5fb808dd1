/** Every way a meeting can stand, made anew from the little example: the four stages, and over by each fault. */
enum Stage {
    BEGUN(0), OFFERED(1), ANSWERED(2), AGREED(3),
    OVER_BY_X(-1), OVER_BY_N(-2), OVER_BY_Y(-1), OVER_BY_S(-3);

    final int state;

    Stage(int state) {
        this.state = state;
    }

    KeyMeeting make() {
        return switch (this) {
            case BEGUN -> Examples.told(Examples.little());
            case OFFERED -> Examples.offered(Examples.little());
            case ANSWERED -> Examples.answered(Examples.little());
            case AGREED -> Examples.agreed(Examples.little());
            case OVER_BY_X -> overByX();
            case OVER_BY_N -> overBy(1);
            case OVER_BY_Y -> overBy(2);
            case OVER_BY_S -> overBy(3);
        };
    }

    boolean isOver() {
        return state < 0;
    }

    private static KeyMeeting overByX() {
        KeyMeeting m = OFFERED.make();
        m.alter(0, 0, 1);
        m.answer();
        return m;
    }

    private static KeyMeeting overBy(int what) {
        KeyMeeting m = ANSWERED.make();
        m.alter(what, 0, 1);
        m.accept();
        return m;
    }
}
