import java.util.concurrent.Callable;
import java.util.function.Consumer;
import java.util.function.Supplier;

/**
 * Tries sentences of the document one by one, tells those that do not hold with every answer that is
 * not the due one, and ends the program by their count.
 */
final class Check {
    /** A call whose answer does not matter. */
    interface Call {
        void on(SplitVault x);
    }

    private int right = 0;
    private int wrong = 0;
    private int sentences = 0;

    /** A sentence that compares no answer would hold for every program, so it counts as wrong. */
    void sentence(String words, Consumer<Check> test) {
        int rightBefore = right;
        int wrongBefore = wrong;
        try {
            test.accept(this);
        } catch (RuntimeException e) {
            note(false, "a call threw " + e);
        }
        if (right + wrong == rightBefore + wrongBefore) {
            note(false, "no answer was compared");
        }
        sentences++;
        System.out.println((wrong == wrongBefore ? "  holds: " : "  BROKEN: ") + words);
    }

    void due(String what, long want, long got) {
        note(want == got, what + " answered " + got + ", due is " + want);
    }

    void due(String what, boolean want, boolean got) {
        note(want == got, what + " answered " + got + ", due is " + want);
    }

    void due(String what, String want, String got) {
        note(want.equals(got), what + " answered " + got + ", due is " + want);
    }

    /**
     * The call must throw just this exception and change nothing: the object is compared with a twin
     * that was made by the same calls and spared this one, by all that can be seen at once and by all
     * that later calls answer; and all that once more with a wish that must outlive the call.
     */
    void refused(String what, Class<? extends Exception> want, Supplier<SplitVault> made, Call call) {
        refusedOnce(what, want, made, call);
        refusedOnce(what + " under a wish", want, () -> Vaults.wishing(made.get(), 1), call);
    }

    private void refusedOnce(String what, Class<? extends Exception> want, Supplier<SplitVault> made, Call call) {
        SplitVault seen = made.get();
        due(what, want.getSimpleName(), thrown(seen, call));
        due("what is seen behind " + what, View.of(made.get()), View.of(seen));
        SplitVault used = made.get();
        thrown(used, call);
        due("what later calls answer behind " + what, View.future(made.get()), View.future(used));
    }

    void illegalArgument(String what, Supplier<SplitVault> made, Call call) {
        refused(what, IllegalArgumentException.class, made, call);
    }

    void illegalState(String what, Supplier<SplitVault> made, Call call) {
        refused(what, IllegalStateException.class, made, call);
    }

    void unsupported(String what, Supplier<SplitVault> made, Call call) {
        refused(what, UnsupportedOperationException.class, made, call);
    }

    void noSuchElement(String what, Supplier<SplitVault> made, Call call) {
        refused(what, java.util.NoSuchElementException.class, made, call);
    }

    void outOfBounds(String what, Supplier<SplitVault> made, Call call) {
        refused(what, IndexOutOfBoundsException.class, made, call);
    }

    private static String thrown(SplitVault x, Call call) {
        return outcome(() -> {
            call.on(x);
            return "nothing thrown";
        });
    }

    /** The answer as a text, or the exception's name. */
    static String outcome(Callable<?> call) {
        try {
            return String.valueOf(call.call());
        } catch (Exception e) {
            return e.getClass().getSimpleName();
        }
    }

    void end() {
        System.out.println(sentences + " sentences, " + right + " answers as due, " + wrong + " not");
        if (wrong > 0) {
            System.exit(1);
        }
    }

    private void note(boolean isRight, String complaint) {
        if (isRight) {
            right++;
        } else {
            wrong++;
            System.out.println(complaint);
        }
    }
}
