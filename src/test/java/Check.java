/** Counts the answers of a test that are not as due, and ends the test. */
final class Check {
    interface Call {
        void make();
    }

    private int done = 0;
    private int wrong = 0;
    private int sentences = 0;
    private String beside = "";

    /** The answers from here on are held to this sentence, which is told beside a wrong one. */
    void sentence(String where, String words) {
        sentences++;
        beside = where + ", \"" + words + "\": ";
    }

    void due(String call, long got, long want) {
        done++;
        if (got != want) {
            wrong++;
            System.out.println(beside + call + " answered " + got + ", due is " + want);
        }
    }

    void same(String call, String got, String want) {
        done++;
        if (!got.equals(want)) {
            wrong++;
            System.out.println(beside + call + " left\n  " + got + ", due is\n  " + want);
        }
    }

    void due(String call, boolean got, boolean want) {
        due(call, got ? 1 : 0, want ? 1 : 0);
    }

    void noFont(String call, Call made) {
        throwing(call, made, IllegalStateException.class);
    }

    void noIndex(String call, Call made) {
        throwing(call, made, IndexOutOfBoundsException.class);
    }

    void noArgument(String call, Call made) {
        throwing(call, made, IllegalArgumentException.class);
    }

    /** The class must be just the one that the document names: the machine throws subclasses of it. */
    private void throwing(String call, Call made, Class<? extends RuntimeException> want) {
        done++;
        Class<?> got = null;
        try {
            made.make();
        } catch (RuntimeException e) {
            got = e.getClass();
        }
        if (got != want) {
            wrong++;
            System.out.println(beside + call + " threw " + got + ", due is " + want);
        }
    }

    void end(String test) {
        String held = sentences == 0 ? "" : sentences + " sentences, ";
        System.out.println(test + ": " + held + done + " answers, " + wrong + " of them not as due");
        if (wrong != 0 || done == 0) {
            System.exit(1);
        }
    }
}
