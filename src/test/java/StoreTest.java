/** Promise 4: store, and the arithmetic of bytes. */
public final class StoreTest {
    public static void main(String[] args) {
        Check check = new Check();
        arithmetic(check);
        threeParts(check);
        messages(check);
        lengths(check);
        allFiles(check);
        wrongInputs(check);
        wrongStates(check);
        tooFewBytes(check);
        check.end();
    }

    /** 57 times 02, 04, 08 are ae, 47, 8e; 80 times 02 goes over x^8. */
    private static void arithmetic(Check check) {
        SplitVault x = new SplitVault(2, 9);
        x.feed(0x8057, 2);
        x.store(0, 0, 2);
        check.due("57 times 1", 0x57, x.share(1, 0, 0));
        check.due("57 times 2", 0xae, x.share(2, 0, 0));
        check.due("57 times 3", 0xf9, x.share(3, 0, 0));
        check.due("57 times 4", 0x47, x.share(4, 0, 0));
        check.due("57 times 8", 0x8e, x.share(8, 0, 0));
        check.due("57 times 9", 0xd9, x.share(9, 0, 0));
        check.due("80 times 1", 0x80, x.share(1, 0, 1));
        check.due("80 times 2", 0x1b, x.share(2, 0, 1));
        check.due("80 times 3", 0x9b, x.share(3, 0, 1));
    }

    /** 10 + 1 x + 2 x^2, and for the next byte 20 + 4 x + 0 x^2. */
    private static void threeParts(Check check) {
        SplitVault x = new SplitVault(3, 4);
        x.feed(0x00040201, 4);
        check.due("store", 13, x.store(6, 0x2010, 2));
        check.due("shares of byte 0", "19 26 25 52", Vaults.shares(x, 4, 6, 0));
        check.due("shares of byte 1", "36 40 44 48", Vaults.shares(x, 4, 6, 1));
        check.due("pool", 0, x.pool());
        check.due("files", 1, x.files());
        check.due("epoch", 0, x.epoch());
    }

    private static void messages(Check check) {
        SplitVault x = new SplitVault(2, 3);
        x.feed(0x8007, 2);
        check.due("store", 10, x.store(0, 0x0005, 2));
        check.due("sent", 10, x.sent());
        check.due("messages", "0>3:257 0>2:257 0>1:257 0>0:256 0>3:155 0>2:27 0>1:128 0>3:12 0>2:11 0>1:2",
                View.messages(x, 64));
    }

    private static void lengths(Check check) {
        for (int length = 1; length <= 8; length++) {
            SplitVault x = Vaults.fed(3, 5, 16);
            check.due("store of " + length, 5 * length + 6, x.store(length - 1, 0x8877665544332211L, length));
            check.due("length", length, x.length(length - 1));
            check.due("bytes", 0x8877665544332211L << 64 - 8 * length >>> 64 - 8 * length,
                    x.restore(length - 1, -1));
            check.due("pool", 16 - 2 * length, x.pool());
        }
    }

    private static void allFiles(Check check) {
        SplitVault x = Vaults.fed(9, 9, 512);
        for (int file = 7; file >= 0; file--) {
            check.due("store", 82, x.store(file, 0x0102030405060708L * (file + 1), 8));
        }
        check.due("files", 8, x.files());
        check.due("pool", 0, x.pool());
        for (int file = 0; file < 8; file++) {
            check.due("file " + file, 0x0102030405060708L * (file + 1), x.restore(file, -1));
            int kept = file;
            check.illegalState("store of kept file " + file, x, () -> x.store(kept, 1, 1));
        }
    }

    private static void wrongInputs(Check check) {
        SplitVault x = Vaults.fed(2, 3, 40);
        x.store(2, 1, 1);
        x.empty(1);
        for (int file : new int[] {Integer.MIN_VALUE, -1, 8, Integer.MAX_VALUE}) {
            check.illegalArgument("store of file " + file, x, () -> x.store(file, 1, 1));
        }
        for (int length : new int[] {Integer.MIN_VALUE, -1, 0, 9, Integer.MAX_VALUE}) {
            check.illegalArgument("store of length " + length, x, () -> x.store(0, 1, length));
            check.illegalArgument("store of a kept file, length " + length, x, () -> x.store(2, 1, length));
        }
    }

    private static void wrongStates(Check check) {
        SplitVault x = Vaults.small();
        check.illegalState("store of a kept file, with no bytes", x, () -> x.store(0, 6, 1));
        x.empty(2);
        check.illegalState("store with an emptied box and no bytes", x, () -> x.store(1, 6, 1));
        Vaults.feed(x, 20);
        check.illegalState("store with an emptied box", x, () -> x.store(1, 6, 1));
        x.rebuild(2, 10);
        check.illegalState("store of a kept file", x, () -> x.store(0, 6, 1));
        x.stopAfter(0);
        x.store(1, 6, 1);
        check.illegalState("store with a stopped job", x, () -> x.store(1, 6, 1));
        check.illegalState("store with a stopped job, too few bytes", x, () -> x.store(1, 6, 8));
        x.resume();
        check.due("store behind a dropped job", 7, x.store(1, 6, 1));
    }

    private static void tooFewBytes(Check check) {
        SplitVault x = Vaults.fed(4, 6, 11);
        check.unsupported("store of 4 with 11", x, () -> x.store(0, 1, 4));
        x.feed(1, 1);
        check.due("store of 4 with 12", 31, x.store(0, 1, 4));
        check.unsupported("store of 1 with 0", x, () -> x.store(1, 1, 1));
    }
}
