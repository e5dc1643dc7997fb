/** Counts and prints the answers that are not the ones that are due. */
final class Checks {
    interface Call {
        Object answer();
    }

    private int wrong = 0;
    private int made = 0;

    void due(String what, Call call, Object want) {
        String got;
        try {
            got = String.valueOf(call.answer());
        } catch (RuntimeException e) {
            got = e.getClass().getSimpleName();
        }
        made++;
        if (!got.equals(String.valueOf(want))) {
            wrong++;
            System.out.println(what + " answered " + got + ", due is " + want);
        }
    }

    void argument(String what, Call call) {
        due(what, call, "IllegalArgumentException");
    }

    void state(String what, Call call) {
        due(what, call, "IllegalStateException");
    }

    void index(String what, Call call) {
        due(what, call, "IndexOutOfBoundsException");
    }

    void element(String what, Call call) {
        due(what, call, "NoSuchElementException");
    }

    void end() {
        System.out.println(made + " answers, " + wrong + " wrong");
        if (wrong > 0) {
            System.exit(1);
        }
    }
}
