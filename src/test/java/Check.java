/** Counts and prints the answers that are not the ones that are due. */
final class Check {
    /** A call that is asked for its answer, or for what it throws. */
    interface Call {
        long answer();
    }

    private int wrong = 0;
    private int asked = 0;
    private int sentences = 0;
    private int askedBefore = 0;
    private String sentence = "";

    /** The words of the document that the answers from here on are due by. */
    void sentence(String words) {
        endSentence();
        sentence = words;
        sentences++;
    }

    void due(String call, long got, long want) {
        asked++;
        if (got != want) {
            tell(call + " answered " + got + ", due is " + want);
        }
    }

    void due(String what, String got, String want) {
        asked++;
        if (!got.equals(want)) {
            tell(what + " is " + got + ", due is " + want);
        }
    }

    void dueTrue(String what, boolean isSo) {
        asked++;
        if (!isSo) {
            tell("not so: " + what);
        }
    }

    void dueIllegalArgument(String name, Call call) {
        dueThrown(name, call, IllegalArgumentException.class);
    }

    void dueIllegalState(String name, Call call) {
        dueThrown(name, call, IllegalStateException.class);
    }

    private void dueThrown(String name, Call call, Class<? extends RuntimeException> want) {
        asked++;
        String got;
        try {
            got = "answered " + call.answer();
        } catch (RuntimeException thrown) {
            if (thrown.getClass() == want) {
                return;
            }
            got = "threw " + thrown;
        }
        tell(name + " " + got + ", due is " + want.getSimpleName());
    }

    private void tell(String fault) {
        wrong++;
        System.out.println(sentence.isEmpty() ? fault : fault + " (" + sentence + ")");
    }

    // A sentence without an answer would be a test that can't fail.
    private void endSentence() {
        if (sentences > 0 && asked == askedBefore) {
            tell("nothing was asked");
        }
        askedBefore = asked;
    }

    void end() {
        endSentence();
        String of = sentences == 0 ? "" : sentences + " sentences, ";
        System.out.println(of + asked + " answers, " + wrong + " of them wrong");
        if (wrong != 0 || asked == 0) {
            System.exit(1);
        }
    }
}
