import java.util.function.Supplier;

/** Promise 4: store. */
public final class StoreTest {
    private static final long EIGHT = 0x8877665544332211L;
    private static final int[] NO_LENGTHS = {Integer.MIN_VALUE, -1, 0, 9, 64, Integer.MAX_VALUE};

    public static void main(String[] args) {
        Check check = new Check();
        check.sentence("Promise 4: stores the length lowest of eight bytes, the lowest one first", StoreTest::lengths);
        check.sentence("Promise 4: answers how many messages were sent", StoreTest::answers);
        check.sentence("Promise 4: files 0 .. 7 can all be kept, of 8 bytes each", StoreTest::allFiles);
        check.sentence("Terms: the bytes taken are c1, c2, .. of each byte's polynomial", StoreTest::polynomials);
        check.sentence("Terms: the messages of storing", StoreTest::messages);
        check.sentence("Terms: storing goes over the new file's bytes alone", StoreTest::newFileAlone);
        check.sentence("Terms: IllegalArgumentException when a file is not 0 .. 7", StoreTest::wrongFiles);
        check.sentence("Promise 4: IllegalArgumentException also when length is not 1 .. 8", StoreTest::wrongLengths);
        check.sentence("Promise 4: IllegalStateException: the file is kept", StoreTest::keptFile);
        check.sentence("Promise 4: a file that was forgotten can be stored again", StoreTest::forgottenFile);
        check.sentence("Promise 4: IllegalStateException: a box is emptied", StoreTest::emptiedBox);
        check.sentence("Promise 4: IllegalStateException: a job is stopped", StoreTest::stoppedJob);
        check.sentence("Promise 4: UnsupportedOperationException: the pool has fewer bytes than it takes",
                StoreTest::tooFewBytes);
        check.sentence("Terms: IllegalArgumentException goes before IllegalStateException", StoreTest::argumentFirst);
        check.sentence("Terms: IllegalArgumentException goes before UnsupportedOperationException",
                StoreTest::argumentBeforePool);
        check.sentence("Terms: IllegalStateException goes before UnsupportedOperationException",
                StoreTest::stateBeforePool);
        check.end();
    }

    private static void lengths(Check check) {
        for (int length = 1; length <= 8; length++) {
            SplitVault x = Vaults.fed(3, 5, 16);
            x.store(length - 1, EIGHT, length);
            check.due("length", length, x.length(length - 1));
            check.due("bytes", EIGHT << 64 - 8 * length >>> 64 - 8 * length, x.restore(length - 1, -1));
            check.due("pool", 16 - 2 * length, x.pool());
        }
    }

    private static void answers(Check check) {
        for (int n = 2; n <= 9; n++) {
            for (int length = 1; length <= 8; length++) {
                SplitVault x = Vaults.fed(n, n, 64);
                check.due("store of " + length, n * length + 1 + n, x.store(0, EIGHT, length));
                check.due("sent", n * length + 1 + n, x.sent());
            }
        }
    }

    private static void allFiles(Check check) {
        SplitVault x = Vaults.fed(9, 9, 512);
        for (int file = 7; file >= 0; file--) {
            check.due("store", 82, x.store(file, EIGHT * (file + 1), 8));
        }
        check.due("files", 8, x.files());
        check.due("pool", 0, x.pool());
        for (int file = 0; file < 8; file++) {
            check.due("file " + file, EIGHT * (file + 1), x.restore(file, -1));
        }
    }

    /** 10 + 1 x + 2 x^2, and for the next byte 20 + 4 x + 0 x^2. */
    private static void polynomials(Check check) {
        SplitVault x = new SplitVault(3, 4);
        x.feed(0x00040201, 4);
        x.store(6, 0x2010, 2);
        check.due("shares of byte 0", "19 26 25 52", Vaults.shares(x, 4, 6, 0));
        check.due("shares of byte 1", "36 40 44 48", Vaults.shares(x, 4, 6, 1));
    }

    private static void messages(Check check) {
        SplitVault x = new SplitVault(2, 3);
        x.feed(0x8007, 2);
        x.store(0, 0x0005, 2);
        check.due("messages", "0>3:257 0>2:257 0>1:257 0>0:256 0>3:155 0>2:27 0>1:128 0>3:12 0>2:11 0>1:2",
                View.messages(x, 64));
    }

    private static void newFileAlone(Check check) {
        SplitVault x = Vaults.smallFed();
        check.due("store beside another", 7, x.store(1, 9, 1));
        check.due("pool", 1, x.pool());
        check.due("the other's shares", "2 11 12", Vaults.shares(x, 3, 0, 0));
        check.due("epoch", 0, x.epoch());
    }

    private static void wrongFiles(Check check) {
        for (int file : Vaults.NO_FILES) {
            check.illegalArgument("store of file " + file, Vaults::smallFed, x -> x.store(file, 1, 1));
        }
    }

    private static void wrongLengths(Check check) {
        for (int length : NO_LENGTHS) {
            check.illegalArgument("store of length " + length, () -> Vaults.fed(2, 3, 40),
                    x -> x.store(7, 1, length));
        }
    }

    private static void keptFile(Check check) {
        for (int file = 0; file < 8; file++) {
            int kept = file;
            Supplier<SplitVault> made = () -> {
                SplitVault x = Vaults.fed(2, 3, 20);
                x.store(kept, 5, 1);
                return x;
            };
            check.illegalState("store of kept file " + file, made, x -> x.store(kept, 6, 1));
        }
    }

    private static void forgottenFile(Check check) {
        SplitVault x = Vaults.fed(2, 3, 20);
        x.store(4, 0x0605, 2);
        x.forget(4);
        check.due("store again", 7, x.store(4, 9, 1));
        check.due("the file", 9, x.restore(4, -1));
        check.due("its length", 1, x.length(4));
    }

    private static void emptiedBox(Check check) {
        for (int box = 1; box <= 3; box++) {
            int emptied = box;
            check.illegalState("store with box " + box + " emptied", () -> Vaults.emptied(Vaults.smallFed(), emptied),
                    x -> x.store(1, 6, 1));
        }
        SplitVault x = Vaults.smallEmptied();
        x.rebuild(3, -1);
        x.feed(1, 1);
        check.due("store with the box filled again", 7, x.store(1, 6, 1));
    }

    private static void stoppedJob(Check check) {
        for (Supplier<SplitVault> stopped : Vaults.stoppedOnes()) {
            check.illegalState("store with a stopped job", stopped, x -> x.store(1, 6, 1));
            SplitVault x = stopped.get();
            x.resume();
            check.due("store behind it", 7, x.store(1, 6, 1));
        }
    }

    private static void tooFewBytes(Check check) {
        for (int k = 2; k <= 9; k++) {
            for (int length : new int[] {1, 2, 8}) {
                int takes = length * (k - 1);
                int parts = k;
                check.unsupported("store of " + length + " with 1 byte less", () -> Vaults.fed(parts, 9, takes - 1),
                        x -> x.store(0, 1, length));
                SplitVault x = Vaults.fed(k, 9, takes);
                check.due("store with just the bytes", 9 * length + 10, x.store(0, 1, length));
                check.due("pool", 0, x.pool());
            }
        }
    }

    private static void argumentFirst(Check check) {
        for (int length : NO_LENGTHS) {
            check.illegalArgument("store of a kept file, length " + length, Vaults::smallFed,
                    x -> x.store(0, 1, length));
            check.illegalArgument("store with an emptied box, length " + length, Vaults::smallEmptied,
                    x -> x.store(1, 1, length));
            check.illegalArgument("store with a stopped job, length " + length, () -> Vaults.smallStopped(3),
                    x -> x.store(1, 1, length));
        }
        for (int file : Vaults.NO_FILES) {
            check.illegalArgument("store with an emptied box, file " + file, Vaults::smallEmptied,
                    x -> x.store(file, 1, 1));
            check.illegalArgument("store with a stopped job, file " + file, () -> Vaults.smallStopped(3),
                    x -> x.store(file, 1, 1));
        }
    }

    private static void argumentBeforePool(Check check) {
        for (int length : NO_LENGTHS) {
            check.illegalArgument("store with no bytes, length " + length, Vaults::small, x -> x.store(1, 1, length));
        }
        for (int file : Vaults.NO_FILES) {
            check.illegalArgument("store with no bytes, file " + file, Vaults::small, x -> x.store(file, 1, 1));
        }
    }

    private static void stateBeforePool(Check check) {
        check.illegalState("store of a kept file with no bytes", Vaults::small, x -> x.store(0, 6, 1));
        check.illegalState("store with an emptied box and no bytes", () -> Vaults.emptied(Vaults.small(), 2),
                x -> x.store(1, 6, 1));
        check.illegalState("store with a stopped job and too few bytes", () -> Vaults.smallStopped(3),
                x -> x.store(1, 6, 8));
    }
}
