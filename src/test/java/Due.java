/** Compares answers with those that are due, and counts the wrong ones. */
final class Due {
    interface Asking {
        int ask();
    }

    interface Telling {
        void tell();
    }

    private final String title;
    private int asked = 0;
    private int wrong = 0;

    Due(String title) {
        this.title = title;
    }

    static String answer(Asking call) {
        try {
            return Integer.toString(call.ask());
        } catch (RuntimeException e) {
            return "throws." + e.getClass().getSimpleName();
        }
    }

    static String outcome(Telling call) {
        try {
            call.tell();
            return "done";
        } catch (RuntimeException e) {
            return "throws." + e.getClass().getSimpleName();
        }
    }

    void same(String what, String got, String want) {
        asked++;
        if (!got.equals(want)) {
            wrong++;
            if (wrong <= 40) {
                System.out.println(title + ": " + what + " answered " + got + ", due is " + want);
            }
        }
    }

    void is(String what, Asking call, int want) {
        same(what, answer(call), Integer.toString(want));
    }

    void done(String what, Telling call) {
        same(what, outcome(call), "done");
    }

    void noArgument(String what, Asking call) {
        same(what, answer(call), "throws.IllegalArgumentException");
    }

    void noArgument(String what, Telling call) {
        same(what, outcome(call), "throws.IllegalArgumentException");
    }

    void noState(String what, Asking call) {
        same(what, answer(call), "throws.IllegalStateException");
    }

    void noState(String what, Telling call) {
        same(what, outcome(call), "throws.IllegalStateException");
    }

    void shows(String what, Roof x, String want) {
        same(what, x.picture(), want);
    }

    void counts(String what, Roof x, String want) {
        same(what + ", all counts", x.counts(), want);
    }

    void close() {
        System.out.println(title + ": " + asked + " answers, " + wrong + " of them wrong");
        if (wrong != 0) {
            System.exit(1);
        }
    }
}
