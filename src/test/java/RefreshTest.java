/** Promise 5: refresh; promise 17: epoch. */
public final class RefreshTest {
    public static void main(String[] args) {
        Check check = new Check();
        small(check);
        filesByNumber(check);
        noFiles(check);
        behindADroppedOne(check);
        wrongStates(check);
        check.end();
    }

    private static void small(Check check) {
        SplitVault x = Vaults.small();
        check.unsupported("refresh with 0", x, () -> x.refresh());
        x.feed(0x0503, 2);
        check.due("refresh", 7, x.refresh());
        // 5 + (7 + 3) x = 5 + 4 x
        check.due("shares", "1 13 9", Vaults.shares(x, 3, 0, 0));
        check.due("messages", "0>3:257 0>2:257 0>1:257 0>0:256 0>3:9 0>2:13 0>1:1", View.messages(x, 7));
        check.due("epoch", 1, x.epoch());
        check.due("pool", 1, x.pool());
        check.due("file", 5, x.restore(0, 12));
        x.refresh();
        check.due("epoch", 2, x.epoch());
        // 5 + (4 + 5) x = 5 + 1 x
        check.due("shares", "4 7 6", Vaults.shares(x, 3, 0, 0));
    }

    /** Files stored as 5, 2 take the bytes as 2, 5. */
    private static void filesByNumber(Check check) {
        SplitVault x = new SplitVault(3, 3);
        x.feed(0, 6);
        x.store(5, 0x0000, 2);
        x.store(2, 0x00, 1);
        x.feed(0x060504030201L, 6);
        check.due("refresh", 13, x.refresh());
        check.due("file 2", "3 10 9", Vaults.shares(x, 3, 2, 0));
        check.due("file 5, byte 0", "7 22 17", Vaults.shares(x, 3, 5, 0));
        check.due("file 5, byte 1", "3 18 17", Vaults.shares(x, 3, 5, 1));
        check.due("messages", "0>3:17 0>2:18 0>1:3 0>3:17 0>2:22 0>1:7 0>3:9 0>2:10 0>1:3",
                View.messages(x, 13).replaceFirst(".*:256 ", ""));
    }

    private static void noFiles(Check check) {
        SplitVault x = new SplitVault(2, 4);
        check.due("refresh of nothing", 5, x.refresh());
        check.due("messages", "0>4:257 0>3:257 0>2:257 0>1:257 0>0:256", View.messages(x, 64));
        check.due("epoch", 1, x.epoch());
    }

    /** The bytes of the dropped one have left no trace in the polynomials. */
    private static void behindADroppedOne(Check check) {
        SplitVault x = Vaults.small();
        x.feed(0x0370, 2);
        x.stopAfter(3);
        x.refresh();
        x.resume();
        check.due("refresh", 7, x.refresh());
        check.due("shares", "1 13 9", Vaults.shares(x, 3, 0, 0));
        check.due("epoch", 1, x.epoch());
    }

    private static void wrongStates(Check check) {
        SplitVault x = Vaults.small();
        x.empty(3);
        check.illegalState("refresh with an emptied box and no bytes", x, () -> x.refresh());
        Vaults.feed(x, 10);
        check.illegalState("refresh with an emptied box", x, () -> x.refresh());
        x.rebuild(3, 6);
        x.stopAfter(3);
        check.due("refresh stopped before FLIP", 3, x.refresh());
        check.due("epoch", 0, x.epoch());
        check.due("shares", "2 11 12", Vaults.shares(x, 3, 0, 0));
        check.illegalState("refresh with a stopped job", x, () -> x.refresh());
        x.resume();
        x.stopAfter(4);
        check.due("refresh stopped behind FLIP", 4, x.refresh());
        check.due("epoch", 1, x.epoch());
        check.illegalState("refresh with a stopped job", x, () -> x.refresh());
    }
}
