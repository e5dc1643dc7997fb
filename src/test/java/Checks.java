/** Counts and prints the answers that are not the ones that are due. */
final class Checks {
    interface Call {
        Object answer();
    }

    interface Maker {
        LatticeArm make();
    }

    interface Act {
        Object on(LatticeArm x);
    }

    private int wrong = 0;
    private int made = 0;
    private String heading = "";

    /** What stands before each line that is printed from now on. */
    void head(String text) {
        heading = text;
    }

    int made() {
        return made;
    }

    static String answerOf(Call call) {
        try {
            return String.valueOf(call.answer());
        } catch (RuntimeException e) {
            return e.getClass().getSimpleName();
        }
    }

    void due(String what, Call call, Object want) {
        String got = answerOf(call);
        made++;
        if (!got.equals(String.valueOf(want))) {
            wrong++;
            System.out.println(heading + what + " answered " + got + ", due is " + want);
        }
    }

    void argument(String what, Call call) {
        due(what, call, "IllegalArgumentException");
    }

    void state(String what, Call call) {
        due(what, call, "IllegalStateException");
    }

    void index(String what, Call call) {
        due(what, call, "IndexOutOfBoundsException");
    }

    void element(String what, Call call) {
        due(what, call, "NoSuchElementException");
    }

    /** An act that throws an exception, and leaves the state as it was. */
    void refused(String exception, String what, Maker maker, Act act) {
        LatticeArm x = maker.make();
        due(what, () -> act.on(x), exception);
        due(what + ", then the state", () -> Portrait.of(x), Portrait.of(maker.make()));
    }

    void end() {
        System.out.println(made + " answers, " + wrong + " wrong");
        if (wrong > 0) {
            System.exit(1);
        }
    }
}
