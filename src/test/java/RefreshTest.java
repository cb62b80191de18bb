import java.util.function.Supplier;

/** Promise 5: refresh; promise 17: epoch. */
public final class RefreshTest {
    public static void main(String[] args) {
        Check check = new Check();
        check.sentence("Promise 5: answers how many messages were sent", RefreshTest::answers);
        check.sentence("Terms: the bytes taken are added to c1, c2, .. of each polynomial", RefreshTest::added);
        check.sentence("Terms: the messages of refreshing", RefreshTest::messages);
        check.sentence("Terms: each kept file by its number, each with its bytes in order", RefreshTest::filesByNumber);
        check.sentence("Terms: for bytes of no kept file there are no such messages", RefreshTest::noFiles);
        check.sentence("Terms: a forgotten file is refreshed no more", RefreshTest::forgottenFile);
        check.sentence("Refreshing changes all shares and no file", RefreshTest::filesStay);
        check.sentence("Promise 5: IllegalStateException: a box is emptied", RefreshTest::emptiedBox);
        check.sentence("Promise 5: IllegalStateException: a job is stopped", RefreshTest::stoppedJob);
        check.sentence("Promise 5: UnsupportedOperationException: the pool has fewer bytes than it takes",
                RefreshTest::tooFewBytes);
        check.sentence("Terms: IllegalStateException goes before UnsupportedOperationException",
                RefreshTest::stateBeforePool);
        check.sentence("Promise 17: with the FLIP of refreshing the epoch is 1 more", RefreshTest::epoch);
        check.sentence("Promise 17: other calls do not change the epoch", RefreshTest::sameEpoch);
        check.end();
    }

    private static void answers(Check check) {
        for (int n = 2; n <= 9; n++) {
            SplitVault x = Vaults.fed(2, n, 18);
            x.store(1, 0x0102030405060708L, 8);
            x.store(3, 7, 1);
            int before = x.sent();
            check.due("refresh of 9 bytes in " + n, 10 * n + 1, x.refresh());
            check.due("sent", before + 10 * n + 1, x.sent());
            check.due("pool", 0, x.pool());
        }
    }

    private static void added(Check check) {
        SplitVault x = Vaults.small();
        x.feed(0x0503, 2);
        x.refresh();
        // 5 + (7 + 3) x = 5 + 4 x
        check.due("shares", "1 13 9", Vaults.shares(x, 3, 0, 0));
        x.refresh();
        // 5 + (4 + 5) x = 5 + 1 x
        check.due("shares", "4 7 6", Vaults.shares(x, 3, 0, 0));
    }

    private static void messages(Check check) {
        SplitVault x = Vaults.small();
        x.feed(3, 1);
        x.refresh();
        check.due("messages", "0>3:257 0>2:257 0>1:257 0>0:256 0>3:9 0>2:13 0>1:1", View.messages(x, 7));
    }

    /** Files stored as 5, 2 take the bytes as 2, 5. */
    private static void filesByNumber(Check check) {
        SplitVault x = new SplitVault(3, 3);
        x.feed(0, 6);
        x.store(5, 0x0000, 2);
        x.store(2, 0x00, 1);
        x.feed(0x060504030201L, 6);
        x.refresh();
        check.due("file 2", "3 10 9", Vaults.shares(x, 3, 2, 0));
        check.due("file 5, byte 0", "7 22 17", Vaults.shares(x, 3, 5, 0));
        check.due("file 5, byte 1", "3 18 17", Vaults.shares(x, 3, 5, 1));
        check.due("messages", "0>3:17 0>2:18 0>1:3 0>3:17 0>2:22 0>1:7 0>3:9 0>2:10 0>1:3",
                View.messages(x, 13).replaceFirst(".*:256 ", ""));
    }

    private static void noFiles(Check check) {
        for (int n = 2; n <= 9; n++) {
            SplitVault x = new SplitVault(2, n);
            check.due("refresh of nothing", n + 1, x.refresh());
            check.due("the first message", SplitVault.FLIP, x.message(n, 2));
            check.due("epoch", 1, x.epoch());
        }
        SplitVault x = Vaults.fed(2, 3, 5);
        x.refresh();
        check.due("pool", 5, x.pool());
    }

    private static void forgottenFile(Check check) {
        SplitVault x = Vaults.smallFed();
        x.store(6, 9, 1);
        x.forget(0);
        check.due("refresh", 7, x.refresh());
        check.due("pool", 0, x.pool());
        x.forget(6);
        check.due("refresh of nothing", 4, x.refresh());
    }

    private static void filesStay(Check check) {
        SplitVault x = Vaults.fed(4, 7, 200);
        x.store(0, 0xff00, 2);
        x.store(7, -2, 8);
        for (int round = 0; round < 5; round++) {
            String before = Vaults.shares(x, 7, 7, 7);
            x.refresh();
            check.due("other shares", false, before.equals(Vaults.shares(x, 7, 7, 7)));
            check.due("file 0", 0xff00, x.restore(0, 0xf0));
            check.due("file 7", -2, x.restore(7, 0x1e));
        }
    }

    private static void emptiedBox(Check check) {
        for (int box = 1; box <= 3; box++) {
            int emptied = box;
            check.illegalState("refresh with box " + box + " emptied",
                    () -> Vaults.emptied(Vaults.smallFed(), emptied), SplitVault::refresh);
        }
        check.illegalState("refresh of nothing with a box emptied",
                () -> Vaults.emptied(new SplitVault(2, 3), 2), SplitVault::refresh);
        SplitVault x = Vaults.smallEmptied();
        x.rebuild(3, -1);
        x.feed(1, 1);
        check.due("refresh with the box filled again", 7, x.refresh());
    }

    private static void stoppedJob(Check check) {
        for (Supplier<SplitVault> stopped : Vaults.stoppedOnes()) {
            check.illegalState("refresh with a stopped job", stopped, SplitVault::refresh);
            SplitVault x = stopped.get();
            x.resume();
            check.due("refresh behind it", 7, x.refresh());
        }
    }

    private static void tooFewBytes(Check check) {
        for (int k = 2; k <= 9; k++) {
            int parts = k;
            int takes = 5 * (k - 1);
            check.unsupported("refresh with 1 byte less", () -> keeping5(parts, takes - 1), SplitVault::refresh);
            SplitVault x = keeping5(k, takes);
            check.due("refresh with just the bytes", 55, x.refresh());
            check.due("pool", 0, x.pool());
        }
        check.unsupported("refresh with no bytes", Vaults::small, SplitVault::refresh);
    }

    /** With files of 4 bytes and of 1, and so many bytes in the pool. */
    private static SplitVault keeping5(int parts, int pool) {
        SplitVault x = Vaults.fed(parts, 9, 5 * (parts - 1) + pool);
        x.store(3, 0x44332211, 4);
        x.store(1, 0x55, 1);
        return x;
    }

    private static void stateBeforePool(Check check) {
        check.illegalState("refresh with an emptied box and no bytes", () -> Vaults.emptied(Vaults.small(), 1),
                SplitVault::refresh);
        Supplier<SplitVault> stoppedWithNoBytes = () -> {
            SplitVault x = Vaults.small();
            x.feed(9, 1);
            x.stopAfter(2);
            x.refresh();
            return x;
        };
        check.illegalState("refresh with a stopped job and no bytes", stoppedWithNoBytes, SplitVault::refresh);
    }

    private static void epoch(Check check) {
        SplitVault x = new SplitVault(2, 2);
        for (int round = 1; round <= 200; round++) {
            x.refresh();
            check.due("epoch", round, x.epoch());
        }
        check.due("epoch, stopped just before FLIP", 0, Vaults.smallStopped(3).epoch());
        check.due("epoch, stopped just behind FLIP", 1, Vaults.smallStopped(4).epoch());
    }

    private static void sameEpoch(Check check) {
        SplitVault x = Vaults.smallFed();
        x.store(1, 3, 1);
        check.due("epoch behind store", 0, x.epoch());
        x.feed(0x01020304, 4);
        x.empty(2);
        check.due("epoch behind empty", 0, x.epoch());
        x.rebuild(2, -1);
        check.due("epoch behind rebuild", 0, x.epoch());
        x.forget(1);
        check.due("epoch behind forget", 0, x.epoch());
        SplitVault dropped = Vaults.smallStopped(3);
        dropped.resume();
        check.due("epoch behind a dropped refreshing", 0, dropped.epoch());
        SplitVault finished = Vaults.smallStopped(4);
        finished.resume();
        check.due("epoch behind a finished refreshing", 1, finished.epoch());
    }
}
