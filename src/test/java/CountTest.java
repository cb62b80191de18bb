import java.util.NoSuchElementException;

/** Promises 14 to 18: forget, need, files, epoch and sent. */
public final class CountTest {
    public static void main(String[] args) {
        Check check = new Check();
        forget(check);
        needs(check);
        filesEpochSent(check);
        check.end();
    }

    private static void forget(Check check) {
        SplitVault x = Vaults.fed(2, 3, 40);
        x.store(0, 1, 1);
        x.store(3, 2, 2);
        x.store(7, 3, 3);
        for (int file : new int[] {Integer.MIN_VALUE, -1, 8, Integer.MAX_VALUE}) {
            check.illegalArgument("forget(" + file + ")", x, () -> x.forget(file));
        }
        check.refused("forget(1)", NoSuchElementException.class, x, () -> x.forget(1));
        x.stopAfter(0);
        x.refresh();
        check.refused("forget(1), job stopped", NoSuchElementException.class, x, () -> x.forget(1));
        check.illegalArgument("forget(8), job stopped", x, () -> x.forget(8));
        check.illegalState("forget(3), job stopped", x, () -> x.forget(3));
        x.resume();
        x.empty(1);
        check.due("forget(3), box emptied", 2, x.forget(3));
        check.refused("forget(3) again", NoSuchElementException.class, x, () -> x.forget(3));
        check.due("forget(0)", 1, x.forget(0));
        check.due("the other file", 3, x.restore(7, -1));
        check.due("forget(7)", 0, x.forget(7));
        check.due("rebuild with none", 2, x.rebuild(1, -1));
    }

    private static void needs(Check check) {
        for (int k = 2; k <= 9; k++) {
            SplitVault x = Vaults.fed(k, 9, 11 * (k - 1));
            needs(check, x, k, 0);
            x.store(0, 0, 8);
            needs(check, x, k, 8);
            x.store(5, 0, 3);
            needs(check, x, k, 11);
            x.stopAfter(0);
            needs(check, x, k, 11);
            x.forget(0);
            needs(check, x, k, 3);
            for (int job : new int[] {Integer.MIN_VALUE, -1, 3, Integer.MAX_VALUE}) {
                check.illegalArgument("need(" + job + ")", x, () -> x.need(job));
            }
        }
    }

    private static void needs(Check check, SplitVault x, int k, int bytes) {
        check.due("need(0)", k - 1, x.need(0));
        check.due("need(1)", bytes * (k - 1), x.need(1));
        check.due("need(2)", bytes * k * (k - 1), x.need(2));
    }

    private static void filesEpochSent(Check check) {
        SplitVault x = Vaults.fed(2, 3, 100);
        int sent = 0;
        for (int file = 0; file < 8; file++) {
            check.due("files", file, x.files());
            sent += x.store(file, file, 1);
            check.due("sent", sent, x.sent());
            check.due("epoch", 0, x.epoch());
        }
        check.due("files", 8, x.files());
        check.due("sent", 56, sent);
        x.refresh();
        check.due("epoch behind refresh", 1, x.epoch());
        check.due("sent behind refresh", 56 + 28, x.sent());
        x.empty(1);
        x.rebuild(1, -1);
        check.due("epoch behind rebuild", 1, x.epoch());
        check.due("sent behind rebuild", 84 + 50, x.sent());
        x.forget(2);
        check.due("files", 7, x.files());
    }
}
