import java.util.NoSuchElementException;

/** Promises 11, 12 and 13: restore, length and share. */
public final class ReadTest {
    private static final int[] NO_FILES = {Integer.MIN_VALUE, -1, 8, Integer.MAX_VALUE};

    public static void main(String[] args) {
        Check check = new Check();
        everyMask(check);
        restoreRefused(check);
        lengths(check);
        shares(check);
        check.end();
    }

    /** Just the masks with k filled boxes give the file back. */
    private static void everyMask(Check check) {
        for (int n = 2; n <= 9; n++) {
            for (int k = 2; k <= n; k++) {
                SplitVault x = Vaults.fed(k, n, 8 * (k - 1));
                x.store(7, 0xff01000000c3007fL, 8);
                int emptied = 0;
                if (k < n) {
                    emptied = 1 << n / 2 + 1;
                    x.empty(n / 2 + 1);
                }
                int boxes = (1 << n + 1) - 2 & ~emptied;
                for (int j = 0; j < 1 << n + 1; j++) {
                    int mask = j;
                    int given = mask ^ ~((1 << n + 1) - 1);
                    String due = Integer.bitCount(mask & boxes) >= k
                            ? Long.toString(0xff01000000c3007fL) : "IllegalStateException";
                    check.due("restore(7, " + given + ")", due, Check.outcome(() -> x.restore(7, given)));
                    check.due("restore(7, " + mask + ")", due, Check.outcome(() -> x.restore(7, mask)));
                }
            }
        }
    }

    private static void restoreRefused(Check check) {
        SplitVault x = Vaults.small();
        for (int file : NO_FILES) {
            check.illegalArgument("restore(" + file + ", 0)", x, () -> x.restore(file, 0));
        }
        check.refused("restore(1, 0)", NoSuchElementException.class, x, () -> x.restore(1, 0));
        check.illegalState("restore(0, 8)", x, () -> x.restore(0, 8));
        check.illegalState("restore(0, 0x11)", x, () -> x.restore(0, 0x11));
        check.due("restore(0, 6)", 5, x.restore(0, 6));
        x.forget(0);
        check.refused("restore(0, 6)", NoSuchElementException.class, x, () -> x.restore(0, 6));
    }

    private static void lengths(Check check) {
        SplitVault x = Vaults.fed(2, 2, 30);
        for (int file : NO_FILES) {
            check.illegalArgument("length(" + file + ")", x, () -> x.length(file));
        }
        for (int file = 0; file < 8; file++) {
            check.due("length before", 0, x.length(file));
        }
        x.store(0, 0, 8);
        x.store(7, 0, 1);
        check.due("length(0)", 8, x.length(0));
        check.due("length(7)", 1, x.length(7));
        check.due("length(6)", 0, x.length(6));
        x.forget(0);
        check.due("length(0) forgotten", 0, x.length(0));
        x.store(0, 0x0102, 2);
        check.due("length(0) stored again", 2, x.length(0));
        check.due("restore stored again", 0x0102, x.restore(0, 6));
    }

    private static void shares(Check check) {
        SplitVault x = Vaults.small();
        check.due("shares", "2 11 12", Vaults.shares(x, 3, 0, 0));
        for (int box : new int[] {Integer.MIN_VALUE, -1, 0, 4, 9, Integer.MAX_VALUE}) {
            check.illegalArgument("share(" + box + ", 0, 0)", x, () -> x.share(box, 0, 0));
            check.illegalArgument("share(" + box + ", 1, 9)", x, () -> x.share(box, 1, 9));
        }
        for (int file : NO_FILES) {
            check.illegalArgument("share(1, " + file + ", 0)", x, () -> x.share(1, file, 0));
        }
        check.refused("share(1, 1, -1)", NoSuchElementException.class, x, () -> x.share(1, 1, -1));
        x.empty(2);
        for (int b : new int[] {Integer.MIN_VALUE, -1, 1, 7, 8, Integer.MAX_VALUE}) {
            check.refused("share(1, 0, " + b + ")", IndexOutOfBoundsException.class, x, () -> x.share(1, 0, b));
            check.refused("share(2, 0, " + b + ")", IndexOutOfBoundsException.class, x, () -> x.share(2, 0, b));
        }
        check.refused("share(2, 1, 0)", NoSuchElementException.class, x, () -> x.share(2, 1, 0));
        check.due("share(2, 0, 0)", -1, x.share(2, 0, 0));
        check.due("share(1, 0, 0)", 2, x.share(1, 0, 0));
    }
}
