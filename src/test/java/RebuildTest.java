/** Promise 7: rebuild. */
public final class RebuildTest {
    public static void main(String[] args) {
        Check check = new Check();
        small(check);
        sizes(check);
        helpersOfTheMask(check);
        noFiles(check);
        behindADroppedRefreshing(check);
        wrongInputs(check);
        wrongStates(check);
        check.end();
    }

    /** The terms are 2 (1 / 3) = f7 and b (2 / 3) = fb. */
    private static void small(Check check) {
        SplitVault x = Vaults.small();
        x.empty(3);
        x.feed(0x4221, 2);
        check.due("rebuild", 8, x.rebuild(3, 6));
        check.due("messages", "0>3:257 0>0:256 2>3:" + 0x6f + " 1>3:" + 0x63 + " 2>2:" + 0xb9
                + " 2>1:" + 0x42 + " 1>2:" + 0xd6 + " 1>1:" + 0x21, View.messages(x, 8));
        check.due("shares", "2 11 12", Vaults.shares(x, 3, 0, 0));
        check.due("pool", 0, x.pool());
        check.due("epoch", 0, x.epoch());
        check.due("file", 5, x.restore(0, 1 << 3 | 1 << 1));
    }

    /** Every box of every size is rebuilt to what it was, with the messages and bytes that are due. */
    private static void sizes(Check check) {
        for (int n = 3; n <= 9; n++) {
            for (int k = 2; k < n; k++) {
                SplitVault x = Vaults.fed(k, n, 3 * (k - 1));
                x.store(1, 0x5a01, 2);
                x.store(4, 0xff, 1);
                String before = Vaults.shares(x, n, 1, 0) + Vaults.shares(x, n, 1, 1) + Vaults.shares(x, n, 4, 0);
                for (int box = 1; box <= n; box++) {
                    x.empty(box);
                    Vaults.feed(x, 3 * k * (k - 1));
                    check.due("rebuild", 3 * k * (k + 1) + 2, x.rebuild(box, -1));
                    check.due("pool of " + k + " of " + n, 0, x.pool());
                }
                check.due("shares of " + k + " of " + n, before,
                        Vaults.shares(x, n, 1, 0) + Vaults.shares(x, n, 1, 1) + Vaults.shares(x, n, 4, 0));
            }
        }
    }

    /** The lowest k of the mask help; bits of no box, of emptied boxes and bit 0 do not matter. */
    private static void helpersOfTheMask(Check check) {
        SplitVault x = Vaults.fed(2, 6, 50);
        x.store(0, 9, 1);
        x.empty(1);
        x.empty(3);
        check.due("rebuild", 8, x.rebuild(3, 1 | 1 << 1 | 1 << 3 | 1 << 4 | 1 << 5 | 1 << 6 | 1 << 31));
        check.due("messages", "5>3 4>3 5>5 5>4 4>5 4>4",
                View.messages(x, 8).replaceAll(":[0-9]+", "").replaceFirst("0>3 0>0 ", ""));
        check.due("box 1", SplitVault.NONE, x.share(1, 0, 0));
        check.due("rebuild", 8, x.rebuild(1, 1 << 3 | 1 << 6));
        check.due("messages", "6>1 3>1 6>6 6>3 3>6 3>3",
                View.messages(x, 8).replaceAll(":[0-9]+", "").replaceFirst("0>1 0>0 ", ""));
        check.due("file", 9, x.restore(0, 1 << 1 | 1 << 3));
    }

    private static void noFiles(Check check) {
        SplitVault x = new SplitVault(3, 4);
        x.empty(2);
        check.due("rebuild with no file", 2, x.rebuild(2, -1));
        check.due("messages", "0>2:257 0>0:256", View.messages(x, 64));
        check.due("empty again", 3, x.empty(2));
    }

    private static void behindADroppedRefreshing(Check check) {
        SplitVault x = Vaults.small();
        x.feed(0x422170, 3);
        x.stopAfter(3);
        x.refresh();
        x.resume();
        x.empty(3);
        check.due("rebuild", 8, x.rebuild(3, -1));
        check.due("shares", "2 11 12", Vaults.shares(x, 3, 0, 0));
    }

    private static void wrongInputs(Check check) {
        SplitVault x = Vaults.small();
        x.empty(2);
        for (int box : new int[] {Integer.MIN_VALUE, -1, 0, 4, 9, Integer.MAX_VALUE}) {
            check.illegalArgument("rebuild(" + box + ")", x, () -> x.rebuild(box, 0));
        }
    }

    private static void wrongStates(Check check) {
        SplitVault x = Vaults.small();
        check.illegalState("rebuild of a filled box", x, () -> x.rebuild(1, -1));
        x.empty(2);
        check.illegalState("rebuild with too few helpers", x, () -> x.rebuild(2, 1 | 1 << 1 | 1 << 2 | ~15));
        check.illegalState("rebuild with none", x, () -> x.rebuild(2, 0));
        check.unsupported("rebuild with 0 bytes", x, () -> x.rebuild(2, -1));
        x.feed(1, 1);
        check.unsupported("rebuild with 1 byte", x, () -> x.rebuild(2, -1));
        x.feed(1, 1);
        x.stopAfter(6);
        check.due("rebuild stopped before FLIP", 6, x.rebuild(2, -1));
        check.due("pool", 0, x.pool());
        check.due("share", SplitVault.NONE, x.share(2, 0, 0));
        check.illegalState("rebuild with a stopped job", x, () -> x.rebuild(2, -1));
        x.resume();
        x.feed(0x0101, 2);
        x.stopAfter(7);
        check.due("rebuild stopped behind FLIP", 7, x.rebuild(2, -1));
        check.due("share", 11, x.share(2, 0, 0));
        check.illegalState("rebuild of a filled box, job stopped", x, () -> x.rebuild(2, -1));
        check.due("resume", 2, x.resume());
        check.due("messages", "0>2:257 0>0:256", View.messages(x, 2));
    }
}
