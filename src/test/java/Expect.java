/** Compares answers and exceptions with what is due, prints every one that differs, and ends the test. */
final class Expect {
    interface Call {
        long run();
    }

    private final String test;
    private String about = "";
    private int sentences = 0;
    private int broken = 0;
    private int checked = 0;
    private int wrong = 0;

    Expect(String test) {
        this.test = test;
    }

    /** What a call does, as one text: its answer, or throws. and the name of the exception. */
    static String outcome(Call call) {
        try {
            return Long.toString(call.run());
        } catch (RuntimeException e) {
            return "throws." + e.getClass().getName();
        }
    }

    /** Runs the test that a sentence has of its own; words are the document's, place is where they stand. */
    void sentence(String place, String words, Runnable own) {
        int checkedBefore = checked;
        int wrongBefore = wrong;
        about = place + ": \"" + words + "\": ";
        try {
            own.run();
        } catch (RuntimeException e) {
            same("no exception", "a call that should answer", "" + e);
        }
        if (checked == checkedBefore) {
            same("a comparison", "the test", "nothing");
        }
        about = "";
        sentences++;
        if (wrong != wrongBefore) {
            broken++;
        }
    }

    void gives(long due, String what, Call call) {
        same("" + due, what, outcome(call));
    }

    void raises(Class<? extends RuntimeException> due, String what, Call call) {
        same("throws." + due.getName(), what, outcome(call));
    }

    void same(String due, String what, String got) {
        checked++;
        if (!due.equals(got)) {
            wrong++;
            System.out.println(test + ": " + about + what + " answered " + got + ", due is " + due);
        }
    }

    void end() {
        if (sentences != 0) {
            System.out.println(test + ": " + sentences + " sentences, " + broken + " broken");
        }
        System.out.println(test + ": " + checked + " checked, " + wrong + " wrong");
        if (wrong != 0 || checked == 0) {
            System.exit(1);
        }
    }
}
