/** Counts the answers that are due and those that are not, for one test class. */
final class Check {
    private final String name;
    private int right = 0;
    private int wrong = 0;

    Check(String name) {
        this.name = name;
    }

    void equal(String what, long due, long got) {
        note(due == got, what + ": due is " + due + ", got " + got);
    }

    /** The very class of the exception counts, since a subclass would come from the machine. */
    void raises(String what, Class<? extends RuntimeException> due, Runnable call) {
        Class<?> got = null;
        try {
            call.run();
        } catch (RuntimeException e) {
            got = e.getClass();
        }
        note(got == due, what + ": due is " + due + ", got " + got);
    }

    void note(boolean isRight, String message) {
        if (isRight) {
            right++;
        } else {
            wrong++;
            if (wrong <= 20) {
                System.out.println(name + ": " + message);
            }
        }
    }

    int wrong() {
        return wrong;
    }

    void end() {
        System.out.println(name + ": " + right + " answers right, " + wrong + " wrong");
        if (wrong > 0 || right == 0) {
            System.exit(1);
        }
    }
}
