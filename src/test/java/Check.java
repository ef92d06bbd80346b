/** Counts and prints the answers that are not the ones that are due. */
final class Check {
    /** A call that is asked for its answer, or for what it throws. */
    interface Call {
        long answer();
    }

    private int wrong = 0;
    private int asked = 0;

    void due(String call, long got, long want) {
        asked++;
        if (got != want) {
            wrong++;
            System.out.println(call + " answered " + got + ", due is " + want);
        }
    }

    void dueIllegalArgument(String name, Call call) {
        dueThrown(name, call, IllegalArgumentException.class);
    }

    void dueIllegalState(String name, Call call) {
        dueThrown(name, call, IllegalStateException.class);
    }

    private void dueThrown(String name, Call call, Class<? extends RuntimeException> want) {
        asked++;
        String got;
        try {
            got = "answered " + call.answer();
        } catch (RuntimeException thrown) {
            if (thrown.getClass() == want) {
                return;
            }
            got = "threw " + thrown;
        }
        wrong++;
        System.out.println(name + " " + got + ", due is " + want.getSimpleName());
    }

    void end() {
        System.out.println(asked + " answers, " + wrong + " of them wrong");
        if (wrong != 0 || asked == 0) {
            System.exit(1);
        }
    }
}
