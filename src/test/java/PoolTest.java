/** Promises 2 and 3: feed and pool; Terms: the pool. */
public final class PoolTest {
    private static final long EIGHT = 0xf1e2d3c4b5a69788L;
    private static final int[] NO_COUNTS = {Integer.MIN_VALUE, -1, 0, 9, 64, Integer.MAX_VALUE};

    public static void main(String[] args) {
        Check check = new Check();
        check.sentence("Promise 2: puts the m lowest of eight bytes, the lowest one first", PoolTest::lowestFirst);
        check.sentence("Promise 2: puts them behind the pool", PoolTest::behindThePool);
        check.sentence("Promise 2: answers how many bytes the pool has then", PoolTest::answers);
        check.sentence("Promise 2: IllegalArgumentException: m is not 1 .. 8", PoolTest::wrongCounts);
        check.sentence("Promise 2: UnsupportedOperationException: it would have more than 1000", PoolTest::tooMany);
        check.sentence("Terms: the pool has at most 1000 bytes, and does have 1000", PoolTest::full);
        check.sentence("Terms: of both exceptions of feed IllegalArgumentException is thrown", PoolTest::order);
        check.sentence("Terms: bytes are taken from the front of the pool, also when it has gone round",
                PoolTest::goesRound);
        check.sentence("Promise 3: pool tells how many bytes the pool has", PoolTest::counts);
        check.end();
    }

    /** With k = 2 and a file of zeros, box 1 has just the bytes taken. */
    private static void storedBytes(Check check, SplitVault x, long want, int count) {
        x.store(0, 0, count);
        for (int b = 0; b < count; b++) {
            check.due("byte " + b + " of " + count, want >>> 8 * b & 255, x.share(1, 0, b));
        }
        x.forget(0);
    }

    private static void lowestFirst(Check check) {
        for (int m = 1; m <= 8; m++) {
            SplitVault x = new SplitVault(2, 2);
            x.feed(EIGHT, m);
            check.due("pool", m, x.pool());
            storedBytes(check, x, EIGHT, m);
        }
    }

    private static void behindThePool(Check check) {
        SplitVault x = new SplitVault(2, 2);
        x.feed(EIGHT, 8);
        x.feed(0x11223344, 3);
        x.feed(-1, 1);
        storedBytes(check, x, EIGHT, 8);
        storedBytes(check, x, 0xff223344L, 4);
    }

    private static void answers(Check check) {
        SplitVault x = new SplitVault(2, 3);
        int sum = 0;
        for (int m = 1; m <= 8; m++) {
            sum += m;
            check.due("feed of " + m, sum, x.feed(-1, m));
        }
    }

    private static void wrongCounts(Check check) {
        for (int m : NO_COUNTS) {
            check.illegalArgument("feed of " + m, () -> new SplitVault(2, 3), x -> x.feed(1, m));
            check.illegalArgument("feed of " + m + " to 3", () -> Vaults.fed(2, 3, 3), x -> x.feed(1, m));
        }
    }

    private static void tooMany(Check check) {
        for (int have = 993; have <= 1000; have++) {
            for (int m = 1001 - have; m <= 8; m++) {
                int before = have;
                int more = m;
                check.unsupported("feed of " + m + " to " + have, () -> Vaults.fed(2, 2, before),
                        x -> x.feed(-1, more));
            }
        }
    }

    private static void full(Check check) {
        for (int m = 1; m <= 8; m++) {
            SplitVault x = Vaults.fed(2, 2, 1000 - m);
            check.due("feed of " + m + " to " + (1000 - m), 1000, x.feed(0, m));
            check.due("pool", 1000, x.pool());
            x.store(0, 0, m);
            check.due("feed again", 1000, x.feed(0, m));
        }
    }

    private static void order(Check check) {
        for (int m : NO_COUNTS) {
            check.illegalArgument("feed of " + m + " to 1000", () -> Vaults.fed(2, 2, 1000), x -> x.feed(0, m));
        }
    }

    /** 1000 bytes, of which refreshing takes 960, then 960 more: 1960 go through, 64 of them in sight. */
    private static void goesRound(Check check) {
        SplitVault x = Vaults.fed(2, 2, 1000);
        for (int file = 0; file < 8; file++) {
            x.store(file, 0, 8);
        }
        for (int taken = 64; taken < 960; taken += 64) {
            x.refresh();
        }
        check.due("pool", 40, x.pool());
        Vaults.feed(x, 1000, 960);
        check.due("pool", 1000, x.pool());
        for (int file = 0; file < 8; file++) {
            x.forget(file);
        }
        for (int taken = 960; taken < 1048; taken += 8) {
            x.store(0, 0, 8);
            for (int b = 0; b < 8; b++) {
                check.due("byte " + (taken + b), Vaults.byteNumber(taken + b), x.share(1, 0, b));
            }
            x.forget(0);
        }
    }

    private static void counts(Check check) {
        SplitVault x = Vaults.fed(3, 5, 30);
        check.due("pool fed", 30, x.pool());
        x.store(2, 0x0102, 2);
        check.due("pool behind store", 26, x.pool());
        x.refresh();
        check.due("pool behind refresh", 22, x.pool());
        x.empty(4);
        check.due("pool behind empty", 22, x.pool());
        x.rebuild(4, -1);
        check.due("pool behind rebuild", 10, x.pool());
        x.stopAfter(0);
        x.refresh();
        check.due("pool with a stopped job", 6, x.pool());
        x.resume();
        check.due("pool behind a dropped job", 6, x.pool());
        x.forget(2);
        check.due("pool behind forget", 6, x.pool());
    }
}
