import java.util.function.IntSupplier;

/** Counts what is not as due, and tells it. */
final class Check {
    private int wrong = 0;
    private String part = "";

    void begin(String name) {
        part = name;
    }

    void due(String what, long got, long want) {
        if (got != want) {
            fail(what + " answered " + got + ", due is " + want);
        }
    }

    void due(String what, boolean got, boolean want) {
        due(what, got ? 1 : 0, want ? 1 : 0);
    }

    void due(String what, String got, String want) {
        if (!got.equals(want)) {
            fail(what + " is\n  " + got + "\ndue is\n  " + want);
        }
    }

    /** What a call answers, or the name of what it throws. */
    static String answer(IntSupplier call) {
        try {
            return "" + call.getAsInt();
        } catch (RuntimeException e) {
            return e.getClass().getSimpleName();
        }
    }

    static String thrownBy(Runnable call) {
        try {
            call.run();
        } catch (RuntimeException e) {
            return e.getClass().getSimpleName();
        }
        return "nothing";
    }

    void fail(String text) {
        wrong++;
        System.out.println(part + ": " + text);
    }

    void end() {
        System.out.println(wrong == 0 ? "all answers are as due" : wrong + " are not as due");
        if (wrong != 0) {
            System.exit(1);
        }
    }
}
