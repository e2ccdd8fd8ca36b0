/** Compares answers and exceptions with what is due, prints every one that differs, and ends the test. */
final class Expect {
    interface Call {
        long run();
    }

    private final String test;
    private int checked = 0;
    private int wrong = 0;

    Expect(String test) {
        this.test = test;
    }

    /** What a call does, as one text: its answer, or throws. and the name of the exception. */
    static String outcome(Call call) {
        try {
            return Long.toString(call.run());
        } catch (RuntimeException e) {
            return "throws." + e.getClass().getName();
        }
    }

    void gives(long due, String what, Call call) {
        same("" + due, what, outcome(call));
    }

    void raises(Class<? extends RuntimeException> due, String what, Call call) {
        same("throws." + due.getName(), what, outcome(call));
    }

    void same(String due, String what, String got) {
        checked++;
        if (!due.equals(got)) {
            wrong++;
            System.out.println(test + ": " + what + " answered " + got + ", due is " + due);
        }
    }

    void end() {
        System.out.println(test + ": " + checked + " checked, " + wrong + " wrong");
        if (wrong != 0 || checked == 0) {
            System.exit(1);
        }
    }
}
