/** Promises 8, 9 and 10: stopAfter, resume and stopped. */
public final class StopTest {
    public static void main(String[] args) {
        Check check = new Check();
        everyStop(check);
        wishes(check);
        jobsThatThrow(check);
        whileStopped(check);
        wishWhileStopped(check);
        bytesOfADroppedJob(check);
        check.end();
    }

    /** A refreshing of 2 bytes over 3 boxes: 6 shares, FLIP, 3 times TIDY. */
    private static void everyStop(Check check) {
        for (int m = 0; m <= 12; m++) {
            SplitVault x = Vaults.fed(2, 3, 4);
            x.store(0, 0x0201, 2);
            String before = Vaults.shares(x, 3, 0, 0);
            x.stopAfter(m);
            String at = "stop after " + m + ": ";
            check.due(at + "refresh", Math.min(m, 10), x.refresh());
            check.due(at + "sent", 10 + Math.min(m, 10), x.sent());
            check.due(at + "pool", 0, x.pool());
            check.due(at + "stopped", m < 10, x.stopped());
            check.due(at + "epoch", m < 7 ? 0 : 1, x.epoch());
            check.due(at + "old shares", m < 7, before.equals(Vaults.shares(x, 3, 0, 0)));
            check.due(at + "file", 0x0201, x.restore(0, -1));
            check.due(at + "resume", m < 7 ? 1 : m < 10 ? 2 : 0, x.resume());
            check.due(at + "stopped behind resume", false, x.stopped());
            check.due(at + "sent behind resume", 10 + (m < 7 ? m : 10), x.sent());
            check.due(at + "resume again", 0, x.resume());
            check.due(at + "epoch behind resume", m < 7 ? 0 : 1, x.epoch());
            if (m >= 7) {
                check.due(at + "messages", "0>3:257 0>2:257 0>1:257 0>0:256", View.messages(x, 4));
            }
        }
    }

    private static void wishes(Check check) {
        SplitVault x = new SplitVault(2, 2);
        check.due("resume of nothing", 0, x.resume());
        x.stopAfter(1);
        x.stopAfter(-1);
        check.due("a wish taken back", 3, x.refresh());
        x.stopAfter(1);
        for (int m : new int[] {-2, -3, Integer.MIN_VALUE}) {
            check.illegalArgument("stopAfter(" + m + ")", x, () -> {
                x.stopAfter(m);
                return null;
            });
        }
        check.due("a wish that stands", 1, x.refresh());
        x.resume();
        check.due("the job behind it", 3, x.refresh());
        x.stopAfter(0);
        x.stopAfter(2);
        check.due("the later wish", 2, x.refresh());
        x.resume();
        x.stopAfter(Integer.MAX_VALUE);
        check.due("a wish too far", 3, x.refresh());
        x.stopAfter(3);
        check.due("a wish at the end", 3, x.refresh());
        check.due("stopped", false, x.stopped());
        check.due("the job behind it", 3, x.refresh());
    }

    private static void jobsThatThrow(Check check) {
        SplitVault x = Vaults.small();
        x.stopAfter(0);
        check.illegalArgument("store(9)", x, () -> x.store(9, 1, 1));
        check.illegalState("store(0)", x, () -> x.store(0, 1, 1));
        check.unsupported("store(1)", x, () -> x.store(1, 1, 1));
        check.unsupported("refresh", x, () -> x.refresh());
        check.illegalState("rebuild(1)", x, () -> x.rebuild(1, -1));
        x.empty(1);
        check.unsupported("rebuild(1)", x, () -> x.rebuild(1, -1));
        x.feed(0, 2);
        check.due("the wish", 0, x.rebuild(1, -1));
        check.due("stopped", true, x.stopped());
        check.due("pool", 0, x.pool());
    }

    private static void whileStopped(Check check) {
        SplitVault x = Vaults.small();
        x.feed(0x11, 3);
        x.stopAfter(4);
        check.due("store", 4, x.store(5, 0x33, 1));
        check.due("stopped", true, x.stopped());
        check.due("files", 2, x.files());
        check.due("length", 1, x.length(5));
        check.due("restore", 0x33, x.restore(5, 6));
        check.due("feed", 3, x.feed(0, 1));
        check.illegalState("forget", x, () -> x.forget(5));
        check.due("resume", 2, x.resume());
        check.due("messages", "0>3:257 0>2:257 0>1:257 0>0:256", View.messages(x, 4));
        check.due("forget", 1, x.forget(5));
        x.stopAfter(3);
        x.store(5, 0x33, 1);
        check.due("length", 0, x.length(5));
        check.due("resume", 1, x.resume());
        check.due("length", 0, x.length(5));
        check.due("files", 1, x.files());
        check.due("store behind it", 7, x.store(5, 0x44, 1));
        check.due("restore", 0x44, x.restore(5, 6));
    }

    /** It counts for the next job, not for what resume sends. */
    private static void wishWhileStopped(Check check) {
        SplitVault x = new SplitVault(2, 3);
        x.stopAfter(1);
        x.refresh();
        x.stopAfter(0);
        check.due("resume", 2, x.resume());
        check.due("sent", 4, x.sent());
        check.due("stopped", false, x.stopped());
        check.due("the next job", 0, x.refresh());
        check.due("resume", 1, x.resume());
        check.due("the job behind it", 4, x.refresh());
    }

    private static void bytesOfADroppedJob(Check check) {
        SplitVault x = new SplitVault(2, 2);
        x.feed(0x0a0b, 2);
        x.stopAfter(0);
        x.store(0, 0, 1);
        x.resume();
        check.due("pool", 1, x.pool());
        x.store(0, 0, 1);
        check.due("the next byte", 0x0a, x.share(1, 0, 0));
    }
}
