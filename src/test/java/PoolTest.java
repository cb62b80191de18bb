/** Promises 2 and 3: feed and pool. */
public final class PoolTest {
    public static void main(String[] args) {
        Check check = new Check();
        wrongCounts(check);
        order(check);
        fullPool(check);
        ringGoesRound(check);
        check.end();
    }

    private static void wrongCounts(Check check) {
        SplitVault x = new SplitVault(2, 3);
        for (int m : new int[] {Integer.MIN_VALUE, -1, 0, 9, Integer.MAX_VALUE}) {
            check.illegalArgument("feed of " + m, x, () -> x.feed(1, m));
        }
        int sum = 0;
        for (int m = 1; m <= 8; m++) {
            sum += m;
            check.due("feed of " + m, sum, x.feed(-1, m));
            check.due("pool", sum, x.pool());
        }
    }

    /** With a file's byte 0 and k = 2, box 1 has just the byte taken. */
    private static void order(Check check) {
        SplitVault x = new SplitVault(2, 2);
        x.feed(0xf1e2d3c4b5a69788L, 8);
        x.feed(0x11223344, 3);
        x.store(0, 0, 8);
        long first = 0;
        for (int b = 7; b >= 0; b--) {
            first = first << 8 | x.share(1, 0, b);
        }
        check.due("the bytes fed first", 0xf1e2d3c4b5a69788L, first);
        x.store(1, 0, 3);
        check.due("next byte", 0x44, x.share(1, 1, 0));
        check.due("next byte", 0x33, x.share(1, 1, 1));
        check.due("next byte", 0x22, x.share(1, 1, 2));
        check.due("pool", 0, x.pool());
    }

    private static void fullPool(Check check) {
        SplitVault x = Vaults.fed(2, 2, 995);
        for (int m = 6; m <= 8; m++) {
            int more = m;
            check.unsupported("feed of " + m + " to 995", x, () -> x.feed(-1, more));
        }
        check.illegalArgument("feed of 9 to 995", x, () -> x.feed(0, 9));
        check.due("feed of 5 to 995", 1000, x.feed(0, 5));
        check.unsupported("feed of 1 to 1000", x, () -> x.feed(0, 1));
        check.illegalArgument("feed of 0 to 1000", x, () -> x.feed(0, 0));
        check.due("pool", 1000, x.pool());
        x.store(0, 0, 3);
        check.due("pool", 997, x.pool());
        check.due("feed of 3 to 997", 1000, x.feed(0, 3));
    }

    /** More bytes go through the pool than it ever holds, and come out in their order. */
    private static void ringGoesRound(Check check) {
        SplitVault x = new SplitVault(2, 2);
        int fed = 0;
        int taken = 0;
        for (int round = 0; round < 500; round++) {
            for (; x.pool() < 993; fed += 7) {
                long bytes = 0;
                for (int b = 6; b >= 0; b--) {
                    bytes = bytes << 8 | (fed + b) * 37 % 251;
                }
                x.feed(bytes, 7);
            }
            x.store(3, 0, 8);
            for (int b = 0; b < 8; b++, taken++) {
                check.due("byte " + taken, taken * 37 % 251, x.share(1, 3, b));
            }
            x.forget(3);
        }
    }
}
