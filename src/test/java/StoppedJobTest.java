import java.util.List;

/** Terms: what a stopped job has and has not changed, and what can be done meanwhile and behind it. */
public final class StoppedJobTest {
    public static void main(String[] args) {
        Check check = new Check();
        check.sentence("Terms: a job first takes its bytes, stopped or not", StoppedJobTest::takesItsBytes);
        check.sentence("Terms: before FLIP it changes nothing but the pool", StoppedJobTest::beforeFlip);
        check.sentence("Terms: with FLIP the job is done", StoppedJobTest::behindFlip);
        check.sentence("Terms: with FLIP the file is kept", StoppedJobTest::fileKept);
        check.sentence("Terms: with FLIP all polynomials are the new ones and the epoch is 1 more",
                StoppedJobTest::refreshed);
        check.sentence("Terms: with FLIP the box is filled", StoppedJobTest::boxFilled);
        check.sentence("Terms: it has sent the first m of its messages", StoppedJobTest::firstMessages);
        check.sentence("Terms: the bytes that a dropped job took are gone", StoppedJobTest::bytesGone);
        check.sentence("Terms: a dropped job leaves no trace in a refreshing", StoppedJobTest::refreshBehindDropped);
        check.sentence("Terms: a dropped job leaves no trace in a storing", StoppedJobTest::storeBehindDropped);
        check.sentence("Terms: a dropped job leaves no trace in a rebuilding", StoppedJobTest::rebuildBehindDropped);
        check.sentence("Terms: a dropped job leaves no trace in another box", StoppedJobTest::otherBoxBehindDropped);
        check.sentence("Promise 9: the next job is a whole one behind a finished one", StoppedJobTest::behindFinished);
        check.sentence("Promises 2, 8, 11 to 13, 15 to 19: calls that a stopped job does not hinder",
                StoppedJobTest::notHindered);
        check.end();
    }

    private static void takesItsBytes(Check check) {
        for (JobKind job : JobKind.all()) {
            for (int m = 0; m <= job.messages() + 1; m++) {
                SplitVault x = job.stopped(m);
                check.due(job.name() + " stopped after " + m + ": pool", 3, x.pool());
                check.due("next byte", nextByte(job.done()), nextByte(x));
            }
        }
    }

    /** A share of a zero byte tells of the bytes taken; with no file kept, rebuilding takes none before. */
    private static String nextByte(SplitVault x) {
        x.resume();
        Vaults.forgetAll(x);
        Vaults.rebuildAll(x);
        x.feed(-1, 8);
        return x.store(7, 0, 1) + " " + x.share(1, 7, 0);
    }

    private static void beforeFlip(Check check) {
        for (JobKind job : JobKind.all()) {
            String before = View.kept(job.ready().get());
            for (int m = 0; m <= job.contents(); m++) {
                check.due(job.name() + " stopped after " + m, before, View.kept(job.stopped(m)));
            }
        }
    }

    private static void behindFlip(Check check) {
        for (JobKind job : JobKind.all()) {
            String after = View.kept(job.done());
            for (int m = job.contents() + 1; m < job.messages(); m++) {
                check.due(job.name() + " stopped after " + m, after, View.kept(job.stopped(m)));
            }
        }
    }

    private static SplitVault storing(int m) {
        SplitVault x = Vaults.wishing(Vaults.smallFed(), m);
        x.store(7, 0x33, 1);
        return x;
    }

    private static void fileKept(Check check) {
        for (int m = 0; m <= 7; m++) {
            boolean kept = m >= 4;
            SplitVault x = storing(m);
            check.due("files", kept ? 2 : 1, x.files());
            check.due("length", kept ? 1 : 0, x.length(7));
            check.due("restore", kept ? "51" : "NoSuchElementException", Check.outcome(() -> x.restore(7, -1)));
            check.due("share", kept ? Integer.toString(0x33 ^ 0x21) : "NoSuchElementException",
                    Check.outcome(() -> x.share(1, 7, 0)));
            check.due("need", kept ? 2 : 1, x.need(1));
            x.resume();
            check.due("files behind resume", kept ? 2 : 1, x.files());
            check.due("length behind resume", kept ? 1 : 0, x.length(7));
        }
    }

    /** 5 + 7 x becomes 5 + (7 + 21) x. */
    private static void refreshed(Check check) {
        for (int m = 0; m <= 7; m++) {
            boolean done = m >= 4;
            SplitVault x = Vaults.smallStopped(m);
            check.due("share", done ? 0x5 ^ 0x7 ^ 0x21 : 2, x.share(1, 0, 0));
            check.due("epoch", done ? 1 : 0, x.epoch());
            check.due("restore", 5, x.restore(0, 1 << 1 | 1 << 3));
            x.resume();
            check.due("share behind resume", done ? 0x5 ^ 0x7 ^ 0x21 : 2, x.share(1, 0, 0));
            check.due("epoch behind resume", done ? 1 : 0, x.epoch());
        }
    }

    private static SplitVault rebuilding(int m) {
        SplitVault x = Vaults.wishing(Vaults.smallEmptied(), m);
        x.rebuild(3, -1);
        return x;
    }

    private static void boxFilled(Check check) {
        for (int m = 0; m <= 8; m++) {
            boolean done = m >= 7;
            SplitVault x = rebuilding(m);
            check.due("share", done ? 12 : SplitVault.NONE, x.share(3, 0, 0));
            check.due("restore by it", done ? "5" : "IllegalStateException",
                    Check.outcome(() -> x.restore(0, 1 << 1 | 1 << 3)));
            x.resume();
            check.due("share behind resume", done ? 12 : SplitVault.NONE, x.share(3, 0, 0));
            check.due("empty behind resume", done ? "2" : "IllegalStateException",
                    Check.outcome(() -> x.empty(3)));
        }
    }

    private static void firstMessages(Check check) {
        for (JobKind job : JobKind.all()) {
            // The latest one first, so that those which a stopped job did not send stand in front.
            List<String> whole = List.of(View.messages(job.done(), job.messages()).split(" "));
            for (int m = 0; m <= job.messages(); m++) {
                check.due(job.name() + " stopped after " + m,
                        String.join(" ", whole.subList(job.messages() - m, job.messages())),
                        View.messages(job.stopped(m), m));
            }
        }
    }

    /** The bytes are 0b and 0a; only the second one is left. */
    private static void bytesGone(Check check) {
        for (int m = 0; m <= 2; m++) {
            SplitVault x = new SplitVault(2, 2);
            x.feed(0x0a0b, 2);
            x.stopAfter(m);
            x.store(0, 0, 1);
            x.resume();
            check.due("pool", 1, x.pool());
            x.store(0, 0, 1);
            check.due("the next byte", 0x0a, x.share(1, 0, 0));
        }
    }

    private static void refreshBehindDropped(Check check) {
        for (int m = 0; m <= 3; m++) {
            SplitVault x = Vaults.smallStopped(m);
            x.resume();
            check.due("refresh behind a dropped refreshing", 7, x.refresh());
            // 5 + (7 + 42) x, in hexadecimal
            check.due("shares", (0x5 ^ 0x45) + " " + (0x5 ^ 0x8a) + " " + (0x5 ^ 0xcf), Vaults.shares(x, 3, 0, 0));
            check.due("epoch", 1, x.epoch());
        }
    }

    private static void storeBehindDropped(Check check) {
        for (int m = 0; m <= 3; m++) {
            SplitVault x = storing(m);
            x.resume();
            check.due("store behind a dropped storing", 7, x.store(7, 0x33, 1));
            check.due("shares", (0x33 ^ 0x42) + " " + (0x33 ^ 0x84) + " " + (0x33 ^ 0xc6), Vaults.shares(x, 3, 7, 0));
            check.due("shares of the other file", "2 11 12", Vaults.shares(x, 3, 0, 0));
            SplitVault y = Vaults.smallStopped(m);
            y.resume();
            y.store(7, 0x33, 1);
            check.due("shares behind a dropped refreshing", "2 11 12", Vaults.shares(y, 3, 0, 0));
        }
    }

    private static void rebuildBehindDropped(Check check) {
        for (int m = 0; m <= 6; m++) {
            SplitVault x = rebuilding(m);
            x.resume();
            x.feed(0x4221, 2);
            check.due("rebuild behind a dropped rebuilding", 8, x.rebuild(3, -1));
            SplitVault whole = Vaults.smallEmptied();
            whole.rebuild(3, -1);
            check.due("messages", View.messages(whole, 8), View.messages(x, 8));
            check.due("share", 12, x.share(3, 0, 0));
        }
        for (int m = 0; m <= 3; m++) {
            SplitVault x = Vaults.smallStopped(m);
            x.resume();
            x.empty(3);
            x.feed(0x99, 1);
            check.due("rebuild behind a dropped refreshing", 8, x.rebuild(3, -1));
            check.due("shares", "2 11 12", Vaults.shares(x, 3, 0, 0));
        }
    }

    /** The other box gets its own share, not one of the box whose rebuilding was dropped. */
    private static void otherBoxBehindDropped(Check check) {
        SplitVault x = Vaults.fed(2, 4, 20);
        x.store(0, 9, 1);
        String before = Vaults.shares(x, 4, 0, 0);
        x.empty(2);
        x.empty(4);
        x.stopAfter(6);
        x.rebuild(4, -1);
        x.resume();
        x.rebuild(2, -1);
        check.due("box 4", SplitVault.NONE, x.share(4, 0, 0));
        x.rebuild(4, -1);
        check.due("shares", before, Vaults.shares(x, 4, 0, 0));
    }

    private static void behindFinished(Check check) {
        for (int m = 4; m <= 6; m++) {
            SplitVault x = Vaults.smallStopped(m);
            x.resume();
            check.due("refresh behind a finished refreshing", 7, x.refresh());
            // 5 + (7 + 21 + 42) x, in hexadecimal
            check.due("share", 0x5 ^ 0x7 ^ 0x21 ^ 0x42, x.share(1, 0, 0));
            check.due("messages", "0>3:257 0>2:257 0>1:257 0>0:256",
                    View.messages(x, 4));
            check.due("epoch", 2, x.epoch());
        }
    }

    private static void notHindered(Check check) {
        int[] receivers = {3, 3, 0, 2};
        int[] shares = {2, 2, 0x23, 0x23};
        for (int j = 0; j < receivers.length; j++) {
            SplitVault x = Vaults.stoppedOnes().get(j).get();
            check.due("feed", 3, x.feed(1, 2));
            check.due("pool", 3, x.pool());
            x.stopAfter(2);
            x.stopAfter(-1);
            check.due("restore", 5, x.restore(0, 6));
            check.due("length", 1, x.length(0));
            check.due("share", shares[j], x.share(1, 0, 0));
            check.due("need", 2, x.need(2));
            check.due("files", 1, x.files());
            check.due("receiver of the latest message", receivers[j], x.message(0, 1));
            check.due("stopped", true, x.stopped());
        }
    }
}
