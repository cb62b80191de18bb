/** Promise 6: empty. */
public final class EmptyTest {
    public static void main(String[] args) {
        Check check = new Check();
        counts(check);
        wrongInputs(check);
        stoppedJobs(check);
        check.end();
    }

    private static void counts(Check check) {
        SplitVault x = Vaults.fed(2, 5, 30);
        x.store(0, 0x0201, 2);
        check.due("empty(3)", 4, x.empty(3));
        check.due("its share", SplitVault.NONE, x.share(3, 0, 0));
        check.illegalState("empty(3) again", x, () -> x.empty(3));
        check.due("empty(5)", 3, x.empty(5));
        check.due("empty(1)", 2, x.empty(1));
        check.illegalState("empty below k", x, () -> x.empty(2));
        check.illegalState("empty of an emptied one at k", x, () -> x.empty(5));
        check.due("pool", 28, x.pool());
        check.due("sent", 16, x.sent());
        check.due("the file", 0x0201, x.restore(0, -1));
        x.rebuild(5, -1);
        check.due("empty(2) behind rebuild(5)", 2, x.empty(2));
        check.due("the file", 0x0201, x.restore(0, 1 << 4 | 1 << 5));
    }

    private static void wrongInputs(Check check) {
        SplitVault x = Vaults.small();
        for (int box : new int[] {Integer.MIN_VALUE, -1, 0, 4, 9, Integer.MAX_VALUE}) {
            check.illegalArgument("empty(" + box + ")", x, () -> x.empty(box));
        }
        x.empty(1);
        check.illegalArgument("empty(4) at k", x, () -> x.empty(4));
        SplitVault all = new SplitVault(3, 3);
        check.illegalState("empty with k = n", all, () -> all.empty(2));
    }

    private static void stoppedJobs(Check check) {
        SplitVault x = Vaults.small();
        x.feed(1, 1);
        x.stopAfter(6);
        x.refresh();
        check.illegalState("empty with a stopped job", x, () -> x.empty(1));
        check.illegalArgument("empty(0) with a stopped job", x, () -> x.empty(0));
        x.resume();
        check.due("empty behind it", 2, x.empty(1));
    }
}
