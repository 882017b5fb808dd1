/** Counts the calls whose answer is not the one that is due, and ends the test by them. */
final class Check {
    private int wrong = 0;

    void due(String call, long got, long want) {
        if (got != want) {
            tell(call + " answered " + got + ", due is " + want);
        }
    }

    void due(String call, String got, String want) {
        if (!got.equals(want)) {
            tell(call + ": seen is " + got + ", due is " + want);
        }
    }

    void dueIndex(String call, Runnable run) {
        dueThrow(call, run, IndexOutOfBoundsException.class);
    }

    void dueArgument(String call, Runnable run) {
        dueThrow(call, run, IllegalArgumentException.class);
    }

    void dueState(String call, Runnable run) {
        dueThrow(call, run, IllegalStateException.class);
    }

    /** The very class is wanted: a subclass would be one that the machine threw. */
    private void dueThrow(String call, Runnable run, Class<?> want) {
        try {
            run.run();
            tell(call + " threw nothing, due is " + want.getSimpleName());
        } catch (RuntimeException e) {
            if (e.getClass() != want) {
                tell(call + " threw " + e + ", due is " + want.getSimpleName());
            }
        }
    }

    void tell(String what) {
        wrong++;
        if (wrong <= 20) {
            System.out.println(what);
        }
    }

    void end() {
        if (wrong != 0) {
            System.out.println(wrong + " answers are not as due");
            System.exit(1);
        }
    }
}
