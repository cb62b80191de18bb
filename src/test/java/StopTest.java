import java.util.List;
import java.util.function.Supplier;

/** Promises 8, 9 and 10: stopAfter, resume and stopped. */
public final class StopTest {
    public static void main(String[] args) {
        Check check = new Check();
        check.sentence("Promise 8: the next job stops after m messages", StopTest::stops);
        check.sentence("Promise 8: after 0 it sends none, but takes its bytes", StopTest::afterNone);
        check.sentence("Promise 8: with m = -1 it is not wished any more", StopTest::wishedNoMore);
        check.sentence("Promise 8: of two wishes the later one counts", StopTest::laterWish);
        check.sentence("Promise 8: IllegalArgumentException: m is below -1", StopTest::wrongWishes);
        check.sentence("Promise 9: 0 when no job is stopped", StopTest::noneStopped);
        check.sentence("Promise 9: 1, it was dropped, when it has not sent FLIP", StopTest::dropped);
        check.sentence("Promise 9: 2, the messages not sent are sent now, when it has sent FLIP", StopTest::finished);
        check.sentence("Promise 9: behind it no job is stopped any more", StopTest::noneAnyMore);
        check.sentence("Promise 10: whether a job is stopped", StopTest::stopped);
        check.sentence("Promise 10: a job that sent all its m messages is not stopped", StopTest::notStopped);
        check.end();
    }

    private static void stops(Check check) {
        for (JobKind job : JobKind.all()) {
            for (int m = 0; m < job.messages(); m++) {
                SplitVault x = Vaults.wishing(job.ready().get(), m);
                int before = x.sent();
                check.due(job.name() + " stopped after " + m, m, job.start().on(x));
                check.due("sent", before + m, x.sent());
                check.due("stopped", true, x.stopped());
            }
        }
    }

    private static void afterNone(Check check) {
        for (JobKind job : JobKind.all()) {
            SplitVault ready = job.ready().get();
            SplitVault x = job.stopped(0);
            check.due(job.name() + ": sent", ready.sent(), x.sent());
            check.due(job.name() + ": pool", 3, x.pool());
            check.due(job.name() + ": stopped", true, x.stopped());
            check.due(job.name() + ": resume", 1, x.resume());
            check.due(job.name() + ": pool", 3, x.pool());
        }
    }

    private static void wishedNoMore(Check check) {
        for (JobKind job : JobKind.all()) {
            for (int m : new int[] {0, 1, Integer.MAX_VALUE}) {
                SplitVault x = Vaults.wishing(Vaults.wishing(job.ready().get(), m), -1);
                check.due(job.name(), job.messages(), job.start().on(x));
                check.due("stopped", false, x.stopped());
            }
        }
        check.due("-1 with no wish", 3, Vaults.wishing(new SplitVault(2, 2), -1).refresh());
    }

    private static void laterWish(Check check) {
        for (int m = 0; m <= 4; m++) {
            SplitVault x = new SplitVault(2, 3);
            x.stopAfter((m + 2) % 4);
            x.stopAfter(m);
            check.due("refresh", m, x.refresh());
        }
    }

    private static void wrongWishes(Check check) {
        for (int m : new int[] {-2, -3, -64, Integer.MIN_VALUE}) {
            check.illegalArgument("stopAfter(" + m + ")", Vaults::smallFed, x -> x.stopAfter(m));
            check.illegalArgument("stopAfter(" + m + ") with a stopped job", () -> Vaults.smallStopped(3),
                    x -> x.stopAfter(m));
        }
    }

    private static void noneStopped(Check check) {
        for (Supplier<SplitVault> calm : List.<Supplier<SplitVault>>of(() -> new SplitVault(2, 2),
                Vaults::small, Vaults::smallEmptied, () -> Vaults.smallStopped(7))) {
            SplitVault x = calm.get();
            check.due("resume", 0, x.resume());
            check.due("what is seen behind it", View.of(calm.get()), View.of(x));
            SplitVault wishing = Vaults.wishing(calm.get(), 1);
            wishing.resume();
            check.due("what later calls answer", View.future(Vaults.wishing(calm.get(), 1)), View.future(wishing));
        }
    }

    private static void dropped(Check check) {
        for (JobKind job : JobKind.all()) {
            String before = View.kept(job.ready().get());
            for (int m = 0; m <= job.contents(); m++) {
                SplitVault x = job.stopped(m);
                String messages = View.messages(x, 30);
                check.due(job.name() + " stopped after " + m + ": resume", 1, x.resume());
                check.due("messages", messages, View.messages(x, 30));
                check.due("sent", job.ready().get().sent() + m, x.sent());
                check.due("what is kept", before, View.kept(x));
                check.due("pool", 3, x.pool());
            }
        }
    }

    private static void finished(Check check) {
        for (JobKind job : JobKind.all()) {
            String after = View.of(job.done());
            for (int m = job.contents() + 1; m < job.messages(); m++) {
                SplitVault x = job.stopped(m);
                check.due(job.name() + " stopped after " + m + ": resume", 2, x.resume());
                check.due("what is seen", after, View.of(x));
            }
        }
    }

    private static void noneAnyMore(Check check) {
        for (JobKind job : JobKind.all()) {
            for (int m = 0; m < job.messages(); m++) {
                SplitVault x = job.stopped(m);
                x.resume();
                check.due(job.name() + ": stopped", false, x.stopped());
                int sent = x.sent();
                check.due(job.name() + ": resume again", 0, x.resume());
                check.due(job.name() + ": sent", sent, x.sent());
            }
        }
    }

    private static void stopped(Check check) {
        SplitVault x = new SplitVault(2, 3);
        check.due("stopped at first", false, x.stopped());
        x.stopAfter(0);
        check.due("stopped by a wish alone", false, x.stopped());
        x.refresh();
        check.due("stopped", true, x.stopped());
        x.stopAfter(-1);
        check.due("stopped, no wish", true, x.stopped());
        x.resume();
        check.due("stopped behind resume", false, x.stopped());
        x.refresh();
        check.due("stopped behind the next job", false, x.stopped());
    }

    private static void notStopped(Check check) {
        for (JobKind job : JobKind.all()) {
            for (int m : new int[] {job.messages(), job.messages() + 1, Integer.MAX_VALUE}) {
                SplitVault x = Vaults.wishing(job.ready().get(), m);
                check.due(job.name() + " stopped after " + m, job.messages(), job.start().on(x));
                check.due("stopped", false, x.stopped());
                check.due("what is seen", View.of(job.done()), View.of(x));
                check.due("resume", 0, x.resume());
            }
        }
    }
}
