/** Promise 19: message. */
public final class MessageTest {
    private static final int[] NO_PARTS = {Integer.MIN_VALUE, -1, 3, Integer.MAX_VALUE};

    public static void main(String[] args) {
        Check check = new Check();
        few(check);
        latest64(check);
        check.end();
    }

    private static void few(Check check) {
        SplitVault x = new SplitVault(2, 3);
        refusedAt(check, x, 0);
        x.refresh();
        refusedAt(check, x, 4);
        for (int j = 0; j < 3; j++) {
            check.due("sender", 0, x.message(j, 0));
            check.due("receiver", 3 - j, x.message(j, 1));
            check.due("content", SplitVault.TIDY, x.message(j, 2));
        }
        check.due("content", SplitVault.FLIP, x.message(3, 2));
        check.due("receiver", 0, x.message(3, 1));
        for (int what : NO_PARTS) {
            check.illegalArgument("message(3, " + what + ")", x, () -> x.message(3, what));
        }
    }

    /** Of two wrong arguments the message counts first. */
    private static void refusedAt(Check check, SplitVault x, int sent) {
        for (int j : new int[] {Integer.MIN_VALUE, -1, sent, sent + 1, Integer.MAX_VALUE}) {
            check.refused("message(" + j + ", 0)", IndexOutOfBoundsException.class, x, () -> x.message(j, 0));
            for (int what : NO_PARTS) {
                check.refused("message(" + j + ", " + what + ")", IndexOutOfBoundsException.class, x,
                        () -> x.message(j, what));
            }
        }
    }

    private static void latest64(Check check) {
        SplitVault x = Vaults.fed(2, 9, 200);
        for (int sent = x.store(0, 0x0807060504030201L, 8); sent < 1500; sent += x.refresh()) {
            refusedAt(check, x, 64);
            for (int j = 0; j < 9; j++) {
                check.due("TIDY", SplitVault.TIDY, x.message(j, 2));
                check.due("its receiver", 9 - j, x.message(j, 1));
            }
            check.due("FLIP", SplitVault.FLIP, x.message(9, 2));
            for (int j = 10; j < 64; j++) {
                int shareNumber = 72 - (j - 9);
                check.due("receiver", shareNumber % 9 + 1, x.message(j, 1));
                check.due("share", x.share(shareNumber % 9 + 1, 0, shareNumber / 9), x.message(j, 2));
            }
            if (x.pool() < 8) {
                return;
            }
        }
    }
}
