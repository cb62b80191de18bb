import java.util.List;

/** Terms: for which job a wish counts, and what leaves it. */
public final class WishTest {
    private static final int FAR = 1000;

    public static void main(String[] args) {
        Check check = new Check();
        check.sentence("Terms: the wish counts for this job alone, when it was stopped", WishTest::aloneStopped);
        check.sentence("Terms: the wish counts for this job alone, when it was not stopped", WishTest::aloneWhole);
        check.sentence("Terms: the wish counts for a job of any kind", WishTest::anyKind);
        check.sentence("Terms: a storing that throws leaves the wish", WishTest::storingThrows);
        check.sentence("Terms: a refreshing that throws leaves the wish", WishTest::refreshingThrows);
        check.sentence("Terms: a rebuilding that throws leaves the wish", WishTest::rebuildingThrows);
        check.sentence("Terms: a call that is no job leaves the wish", WishTest::otherCalls);
        check.sentence("Promise 8: a stopAfter that throws leaves the wish", WishTest::stopAfterThrows);
        check.sentence("Promise 8: a wish made while a job is stopped counts for the next job", WishTest::whileStopped);
        check.sentence("Promise 9: resume sends all messages, whatever is wished", WishTest::resumeSendsAll);
        check.sentence("Promise 9: resume leaves the wish", WishTest::resumeLeaves);
        check.end();
    }

    private static void aloneStopped(Check check) {
        for (JobKind job : JobKind.all()) {
            for (int m = 0; m < job.messages(); m++) {
                SplitVault x = job.stopped(m);
                x.resume();
                check.due(job.name() + ": the job behind it", "whole", nextJob(x));
            }
        }
    }

    private static void aloneWhole(Check check) {
        for (JobKind job : JobKind.all()) {
            for (int m : new int[] {job.messages(), job.messages() + 1, FAR}) {
                SplitVault x = job.stopped(m);
                check.due(job.name() + ": the job behind it", "whole", nextJob(x));
            }
        }
    }

    /** With no file kept it takes no bytes. */
    private static String nextJob(SplitVault x) {
        Vaults.forgetAll(x);
        if (Vaults.rebuildAll(x) == 0) {
            x.refresh();
        }
        return x.stopped() ? "stopped" : "whole";
    }

    private static void anyKind(Check check) {
        for (JobKind job : JobKind.all()) {
            SplitVault x = Vaults.wishing(job.ready().get(), 1);
            check.due(job.name(), 1, job.start().on(x));
            check.due(job.name() + ": stopped", true, x.stopped());
        }
    }

    /** The wish must stop a refreshing of the small one after 2 messages. */
    private static void stands(Check check, String call, SplitVault x) {
        x.feed(1, 1);
        check.due("refresh behind " + call, 2, x.refresh());
        check.due("stopped behind " + call, true, x.stopped());
        x.resume();
        x.feed(1, 1);
        check.due("the next refresh behind " + call, 7, x.refresh());
    }

    private static void throwing(Check check, String call, SplitVault x, String exception, Check.Call called) {
        check.due(call, exception, Check.outcome(() -> {
            called.on(x);
            return "nothing thrown";
        }));
    }

    private static void storingThrows(Check check) {
        for (Check.Call call : List.<Check.Call>of(x -> x.store(8, 1, 1), x -> x.store(-1, 1, 1),
                x -> x.store(1, 1, 0), x -> x.store(1, 1, 9))) {
            SplitVault x = Vaults.wishing(Vaults.small(), 2);
            throwing(check, "store of nothing", x, "IllegalArgumentException", call);
            stands(check, "store of nothing", x);
        }
        SplitVault kept = Vaults.wishing(Vaults.small(), 2);
        throwing(check, "store of a kept file", kept, "IllegalStateException", x -> x.store(0, 1, 1));
        stands(check, "store of a kept file", kept);
        SplitVault poor = Vaults.wishing(Vaults.small(), 2);
        throwing(check, "store with no bytes", poor, "UnsupportedOperationException", x -> x.store(1, 1, 1));
        stands(check, "store with no bytes", poor);
        SplitVault emptied = Vaults.wishing(Vaults.smallEmptied(), 2);
        throwing(check, "store with a box emptied", emptied, "IllegalStateException", x -> x.store(1, 1, 1));
        check.due("rebuild behind it", 2, emptied.rebuild(3, -1));
        SplitVault stopped = Vaults.wishing(Vaults.smallStopped(3), 2);
        throwing(check, "store with a job stopped", stopped, "IllegalStateException", x -> x.store(1, 1, 1));
        stopped.resume();
        stands(check, "store with a job stopped", stopped);
    }

    private static void refreshingThrows(Check check) {
        SplitVault poor = Vaults.wishing(Vaults.small(), 2);
        throwing(check, "refresh with no bytes", poor, "UnsupportedOperationException", SplitVault::refresh);
        stands(check, "refresh with no bytes", poor);
        SplitVault emptied = Vaults.wishing(Vaults.smallEmptied(), 2);
        throwing(check, "refresh with a box emptied", emptied, "IllegalStateException", SplitVault::refresh);
        check.due("rebuild behind it", 2, emptied.rebuild(3, -1));
        SplitVault stopped = Vaults.wishing(Vaults.smallStopped(4), 2);
        throwing(check, "refresh with a job stopped", stopped, "IllegalStateException", SplitVault::refresh);
        stopped.resume();
        stands(check, "refresh with a job stopped", stopped);
    }

    private static void rebuildingThrows(Check check) {
        for (int box : new int[] {-1, 0, 4}) {
            SplitVault x = Vaults.wishing(Vaults.small(), 2);
            throwing(check, "rebuild of no box", x, "IllegalArgumentException", y -> y.rebuild(box, -1));
            stands(check, "rebuild of no box", x);
        }
        SplitVault filled = Vaults.wishing(Vaults.small(), 2);
        throwing(check, "rebuild of a filled box", filled, "IllegalStateException", x -> x.rebuild(1, -1));
        stands(check, "rebuild of a filled box", filled);
        SplitVault alone = Vaults.wishing(Vaults.smallEmptied(), 2);
        throwing(check, "rebuild with 1 helper", alone, "IllegalStateException", x -> x.rebuild(3, 1 << 1));
        check.due("rebuild behind it", 2, alone.rebuild(3, -1));
        SplitVault poor = Vaults.wishing(Vaults.emptied(Vaults.small(), 3), 2);
        throwing(check, "rebuild with no bytes", poor, "UnsupportedOperationException", x -> x.rebuild(3, -1));
        poor.feed(1, 2);
        check.due("rebuild behind it", 2, poor.rebuild(3, -1));
        SplitVault stopped = Vaults.wishing(Vaults.smallStopped(3), 2);
        throwing(check, "rebuild with a job stopped", stopped, "IllegalStateException", x -> x.rebuild(1, -1));
        stopped.resume();
        stands(check, "rebuild with a job stopped", stopped);
    }

    private static void otherCalls(Check check) {
        for (Check.Call call : List.<Check.Call>of(x -> x.feed(1, 3), SplitVault::pool, SplitVault::resume,
                SplitVault::stopped, x -> x.restore(0, -1), x -> x.length(0), x -> x.share(1, 0, 0),
                x -> x.need(1), SplitVault::files, SplitVault::epoch, SplitVault::sent, x -> x.message(0, 0))) {
            SplitVault x = Vaults.wishing(Vaults.small(), 2);
            call.on(x);
            stands(check, "a call that is no job", x);
        }
        SplitVault forgetting = Vaults.wishing(Vaults.smallFed(), 2);
        forgetting.forget(0);
        check.due("refresh behind forget", 2, forgetting.refresh());
        SplitVault emptying = Vaults.wishing(Vaults.smallFed(), 2);
        emptying.empty(3);
        check.due("rebuild behind empty", 2, emptying.rebuild(3, -1));
    }

    private static void stopAfterThrows(Check check) {
        for (int m : new int[] {-2, Integer.MIN_VALUE}) {
            SplitVault x = Vaults.wishing(Vaults.small(), 2);
            throwing(check, "stopAfter(" + m + ")", x, "IllegalArgumentException", y -> y.stopAfter(m));
            stands(check, "stopAfter(" + m + ")", x);
        }
        SplitVault calm = Vaults.smallFed();
        throwing(check, "stopAfter(-2)", calm, "IllegalArgumentException", x -> x.stopAfter(-2));
        check.due("refresh with no wish", 7, calm.refresh());
    }

    private static void whileStopped(Check check) {
        for (int messages : new int[] {0, 3, 4, 6}) {
            SplitVault x = Vaults.wishing(Vaults.smallStopped(messages), 2);
            check.due("stopped", true, x.stopped());
            x.resume();
            stands(check, "a wish with a stopped job", x);
        }
    }

    private static void resumeSendsAll(Check check) {
        for (int m = 0; m <= 4; m++) {
            SplitVault x = Vaults.wishing(Vaults.smallStopped(4), m);
            check.due("resume", 2, x.resume());
            check.due("sent", 14, x.sent());
            check.due("messages", "0>3:257 0>2:257 0>1:257 0>0:256", View.messages(x, 4));
            check.due("stopped", false, x.stopped());
        }
    }

    private static void resumeLeaves(Check check) {
        SplitVault none = Vaults.wishing(Vaults.small(), 2);
        check.due("resume of none", 0, none.resume());
        stands(check, "resume of none", none);
        SplitVault dropped = Vaults.wishing(Vaults.smallStopped(3), 2);
        check.due("resume", 1, dropped.resume());
        stands(check, "resume", dropped);
        SplitVault finished = Vaults.wishing(Vaults.smallStopped(4), 2);
        check.due("resume", 2, finished.resume());
        stands(check, "resume", finished);
    }
}
