import java.util.concurrent.Callable;

/** Counts the answers that are not the due ones and tells them; ends the program by that count. */
final class Check {
    private int right = 0;
    private int wrong = 0;

    void due(String what, long want, long got) {
        note(want == got, what + " answered " + got + ", due is " + want);
    }

    void due(String what, boolean want, boolean got) {
        note(want == got, what + " answered " + got + ", due is " + want);
    }

    void due(String what, String want, String got) {
        note(want.equals(got), what + " answered " + got + ", due is " + want);
    }

    /** The call must throw just this exception and leave all that can be seen of the object. */
    void refused(String what, Class<? extends Exception> want, SplitVault x, Callable<?> call) {
        String before = View.of(x);
        due(what, want.getSimpleName(), outcome(call));
        due("all that can be seen behind " + what, before, View.of(x));
    }

    void illegalArgument(String what, SplitVault x, Callable<?> call) {
        refused(what, IllegalArgumentException.class, x, call);
    }

    void illegalState(String what, SplitVault x, Callable<?> call) {
        refused(what, IllegalStateException.class, x, call);
    }

    void unsupported(String what, SplitVault x, Callable<?> call) {
        refused(what, UnsupportedOperationException.class, x, call);
    }

    /** The answer as a text, or the exception's name. */
    static String outcome(Callable<?> call) {
        try {
            return String.valueOf(call.call());
        } catch (Exception e) {
            return e.getClass().getSimpleName();
        }
    }

    void end() {
        System.out.println(right + " answers as due, " + wrong + " not");
        if (wrong > 0) {
            System.exit(1);
        }
    }

    private void note(boolean isRight, String complaint) {
        if (isRight) {
            right++;
        } else {
            wrong++;
            System.out.println(complaint);
        }
    }
}
