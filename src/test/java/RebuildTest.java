import java.util.function.Supplier;

/** Promise 7: rebuild. */
public final class RebuildTest {
    private static final int[] NO_BOXES = {Integer.MIN_VALUE, -1, 0, 4, 9, 10, Integer.MAX_VALUE};

    public static void main(String[] args) {
        Check check = new Check();
        check.sentence("Promise 7: rebuilds a box: it has the shares that it had", RebuildTest::sameShares);
        check.sentence("Promise 7: answers how many messages were sent", RebuildTest::answers);
        check.sentence("Terms: terms, pieces and messages of rebuilding", RebuildTest::messages);
        check.sentence("Terms: the first k - 1 pieces of each helper are the next bytes taken", RebuildTest::pieces);
        check.sentence("Terms: for each byte of the kept files, by their numbers", RebuildTest::filesByNumber);
        check.sentence("Terms: for bytes of no kept file there are no such messages", RebuildTest::noFiles);
        check.sentence("Terms: a file forgotten meanwhile has no messages", RebuildTest::forgottenFile);
        check.sentence("Promise 7: with the k lowest boxes of the mask", RebuildTest::lowestOfTheMask);
        check.sentence("Promise 7: bits of emptied boxes and of no box do not count", RebuildTest::otherBits);
        check.sentence("Terms: IllegalArgumentException when a box is not 1 .. n", RebuildTest::wrongBoxes);
        check.sentence("Promise 7: IllegalStateException: the box is filled", RebuildTest::filledBox);
        check.sentence("Promise 7: IllegalStateException: there are fewer than k such", RebuildTest::tooFewHelpers);
        check.sentence("Promise 7: IllegalStateException: a job is stopped", RebuildTest::stoppedJob);
        check.sentence("Promise 7: IllegalStateException: a job is stopped, also behind FLIP",
                RebuildTest::stoppedBehindFlip);
        check.sentence("Promise 7: UnsupportedOperationException: the pool has fewer bytes than it takes",
                RebuildTest::tooFewBytes);
        check.sentence("Promise 7: it may take more bytes than a pool can have", RebuildTest::moreThanAPool);
        check.sentence("Terms: IllegalArgumentException goes before the others", RebuildTest::argumentFirst);
        check.sentence("Terms: IllegalStateException goes before UnsupportedOperationException",
                RebuildTest::stateBeforePool);
        check.end();
    }

    private static SplitVault threeBytes(int k, int n, int pool) {
        SplitVault x = Vaults.fed(k, n, 3 * (k - 1) + pool);
        x.store(4, 0xff, 1);
        x.store(1, 0x5a01, 2);
        return x;
    }

    private static String sharesOfThree(SplitVault x, int n) {
        return Vaults.shares(x, n, 1, 0) + " " + Vaults.shares(x, n, 1, 1) + " " + Vaults.shares(x, n, 4, 0);
    }

    private static void sameShares(Check check) {
        for (int n = 3; n <= 9; n++) {
            for (int k = 2; k < n; k++) {
                SplitVault x = threeBytes(k, n, 0);
                String before = sharesOfThree(x, n);
                for (int box = 1; box <= n; box++) {
                    x.empty(box);
                    Vaults.feed(x, 7, 3 * k * (k - 1));
                    x.rebuild(box, -1);
                }
                check.due("shares of " + k + " of " + n, before, sharesOfThree(x, n));
                check.due("epoch", 0, x.epoch());
            }
        }
    }

    private static void answers(Check check) {
        for (int n = 3; n <= 9; n++) {
            for (int k = 2; k < n; k++) {
                SplitVault x = threeBytes(k, n, 3 * k * (k - 1));
                int before = x.sent();
                x.empty(n);
                check.due("rebuild", 3 * k * (k + 1) + 2, x.rebuild(n, -1));
                check.due("sent", before + 3 * k * (k + 1) + 2, x.sent());
            }
        }
    }

    /** The terms are 2 (1 / 3) = f7 and b (2 / 3) = fb. */
    private static void messages(Check check) {
        SplitVault x = Vaults.smallEmptied();
        x.rebuild(3, 6);
        check.due("messages", "0>3:257 0>0:256 2>3:" + 0x6f + " 1>3:" + 0x63 + " 2>2:" + 0xb9
                + " 2>1:" + 0x42 + " 1>2:" + 0xd6 + " 1>1:" + 0x21, View.messages(x, 8));
    }

    /** With a file of one byte: k rows of pieces, a row of sums, FLIP and TIDY. */
    private static void pieces(Check check) {
        for (int n = 3; n <= 9; n++) {
            // With more parts the messages are not all among the latest 64.
            for (int k = 2; k < n && k <= 7; k++) {
                SplitVault x = Vaults.fed(k, n, (k - 1) * (k + 1));
                x.store(3, 0xa7, 1);
                int share = x.share(1, 3, 0);
                x.empty(1);
                int count = x.rebuild(1, -1);
                int taken = k - 1;
                for (int g = 0; g < k; g++) {
                    for (int h = 0; h < k; h++) {
                        int j = count - 1 - (g * k + h);
                        check.due("sender of a piece", g + 2, x.message(j, 0));
                        check.due("receiver of a piece", h + 2, x.message(j, 1));
                        if (h < k - 1) {
                            check.due("piece", Vaults.byteNumber(taken++), x.message(j, 2));
                        }
                    }
                }
                check.due("the sum of the sums", share, sums(check, x, k));
            }
        }
    }

    private static int sums(Check check, SplitVault x, int k) {
        int all = 0;
        for (int h = 0; h < k; h++) {
            int j = k + 1 - h;
            int sum = 0;
            for (int g = 0; g < k; g++) {
                sum ^= x.message(k + 2 + (k - 1 - g) * k + (k - 1 - h), 2);
            }
            check.due("sender of a sum", h + 2, x.message(j, 0));
            check.due("receiver of a sum", 1, x.message(j, 1));
            check.due("sum", sum, x.message(j, 2));
            all ^= sum;
        }
        return all;
    }

    /** The last byte of the highest file comes last, so its sums make its share. */
    private static void filesByNumber(Check check) {
        SplitVault x = threeBytes(2, 3, 6);
        int[] due = {x.share(3, 1, 0), x.share(3, 1, 1), x.share(3, 4, 0)};
        x.empty(3);
        x.rebuild(3, -1);
        for (int b = 0; b < 3; b++) {
            int last = 2 + 6 * (2 - b);
            check.due("share " + b, due[b], x.message(last, 2) ^ x.message(last + 1, 2));
            check.due("piece " + b, Vaults.byteNumber(3 + 2 * b), x.message(last + 5, 2));
            check.due("piece " + b, Vaults.byteNumber(4 + 2 * b), x.message(last + 3, 2));
        }
    }

    private static void noFiles(Check check) {
        SplitVault x = Vaults.fed(3, 4, 5);
        x.empty(2);
        check.due("rebuild with no file", 2, x.rebuild(2, -1));
        check.due("messages", "0>2:257 0>0:256", View.messages(x, 64));
        check.due("pool", 5, x.pool());
        check.due("empty again", 3, x.empty(2));
    }

    private static void forgottenFile(Check check) {
        SplitVault x = threeBytes(2, 3, 2);
        x.empty(3);
        x.forget(1);
        check.due("rebuild", 8, x.rebuild(3, -1));
        check.due("pool", 0, x.pool());
        check.due("the file", 0xff, x.restore(4, 1 << 3 | 1 << 2));
    }

    /** Without the numbers of the helpers' contents: who sent to whom. */
    private static String routes(SplitVault x) {
        return View.messages(x, 8).replaceAll(":[0-9]+", "");
    }

    private static void lowestOfTheMask(Check check) {
        for (int low = 1; low <= 4; low++) {
            for (int high = low + 1; high <= 5; high++) {
                SplitVault x = Vaults.emptied(oneByte(6), 6);
                x.rebuild(6, 1 << low | -1 << high);
                check.due("messages", String.format("0>6 0>0 %2$d>6 %1$d>6 %2$d>%2$d %2$d>%1$d %1$d>%2$d %1$d>%1$d",
                        low, high), routes(x));
                check.due("the file", 9, x.restore(0, 1 << 6 | 1 << 5));
            }
        }
    }

    private static SplitVault oneByte(int n) {
        SplitVault x = Vaults.fed(2, n, 9);
        x.store(0, 9, 1);
        return x;
    }

    private static void otherBits(Check check) {
        SplitVault x = Vaults.emptied(Vaults.emptied(oneByte(6), 1), 3);
        x.rebuild(3, 1 | 1 << 1 | 1 << 3 | 1 << 4 | 1 << 5 | 1 << 6 | -1 << 7);
        check.due("messages", "0>3 0>0 5>3 4>3 5>5 5>4 4>5 4>4", routes(x));
        check.due("box 1 is still emptied", SplitVault.NONE, x.share(1, 0, 0));
        x.rebuild(1, 1 << 3 | 1 << 6);
        check.due("messages", "0>1 0>0 6>1 3>1 6>6 6>3 3>6 3>3", routes(x));
        check.due("the file", 9, x.restore(0, 1 << 1 | 1 << 3));
    }

    private static void wrongBoxes(Check check) {
        for (int box : NO_BOXES) {
            check.illegalArgument("rebuild(" + box + ")", Vaults::smallEmptied, x -> x.rebuild(box, -1));
        }
        for (int n = 2; n <= 9; n++) {
            int boxes = n;
            check.illegalArgument("rebuild(n + 1)", () -> new SplitVault(2, boxes), x -> x.rebuild(boxes + 1, -1));
            check.illegalArgument("rebuild(0)", () -> new SplitVault(2, boxes), x -> x.rebuild(0, -1));
        }
    }

    private static void filledBox(Check check) {
        for (int box = 1; box <= 3; box++) {
            int number = box;
            check.illegalState("rebuild(" + box + ")", Vaults::smallFed, x -> x.rebuild(number, -1));
        }
        check.illegalState("rebuild(1) with box 3 emptied", Vaults::smallEmptied, x -> x.rebuild(1, -1));
        Supplier<SplitVault> rebuilt = () -> {
            SplitVault x = Vaults.smallEmptied();
            x.rebuild(3, -1);
            x.feed(0x0102, 2);
            return x;
        };
        check.illegalState("rebuild(3) again", rebuilt, x -> x.rebuild(3, -1));
    }

    private static void tooFewHelpers(Check check) {
        for (int n = 3; n <= 9; n++) {
            for (int k = 2; k < n; k++) {
                int parts = k;
                int boxes = n;
                int lacking = ~((1 << n + 1) - 1) | 1 | 1 << 1 | (1 << k + 1) - 2;
                check.illegalState("rebuild with k - 1 of " + n, () -> Vaults.emptied(new SplitVault(parts, boxes), 1),
                        x -> x.rebuild(1, lacking));
                SplitVault x = Vaults.emptied(new SplitVault(k, n), 1);
                check.due("rebuild with k of " + n, 2, x.rebuild(1, 1 << 2 + k - 1 | lacking));
            }
        }
        check.illegalState("rebuild with none", Vaults::smallEmptied, x -> x.rebuild(3, 0));
        check.illegalState("rebuild with bit 0 and 1", Vaults::smallEmptied, x -> x.rebuild(3, 3));
        check.illegalState("rebuild with itself", Vaults::smallEmptied, x -> x.rebuild(3, 1 << 3 | 1 << 1));
    }

    /** A rebuilding of the small one: 4 pieces, 2 sums, FLIP, TIDY. */
    private static void stoppedJob(Check check) {
        for (int m = 0; m <= 6; m++) {
            int messages = m;
            Supplier<SplitVault> stopped = () -> {
                SplitVault x = Vaults.smallEmptied();
                x.stopAfter(messages);
                x.rebuild(3, -1);
                x.feed(0x0908, 2);
                return x;
            };
            check.illegalState("rebuild with a stopped rebuilding", stopped, x -> x.rebuild(3, -1));
            SplitVault x = stopped.get();
            check.due("resume", 1, x.resume());
            check.due("rebuild behind it", 8, x.rebuild(3, -1));
            check.due("the share", 12, x.share(3, 0, 0));
        }
    }

    /** Of two emptied boxes, the one is filled with the FLIP of its stopped rebuilding. */
    private static SplitVault otherStopped() {
        SplitVault x = Vaults.emptied(Vaults.emptied(oneByte(4), 3), 4);
        x.stopAfter(7);
        x.rebuild(3, -1);
        return x;
    }

    private static void stoppedBehindFlip(Check check) {
        check.illegalState("rebuild of the other box", RebuildTest::otherStopped, x -> x.rebuild(4, -1));
        SplitVault x = otherStopped();
        check.due("resume", 2, x.resume());
        check.due("rebuild behind it", 8, x.rebuild(4, 1 << 3 | 1 << 2));
        check.due("the file", 9, x.restore(0, 1 << 3 | 1 << 4));
    }

    private static void tooFewBytes(Check check) {
        for (int k = 2; k <= 8; k++) {
            int takes = 3 * k * (k - 1);
            int parts = k;
            check.unsupported("rebuild with 1 byte less", () -> Vaults.emptied(threeBytes(parts, 9, takes - 1), 5),
                    x -> x.rebuild(5, -1));
            SplitVault x = Vaults.emptied(threeBytes(k, 9, takes), 5);
            check.due("rebuild with just the bytes", 3 * k * (k + 1) + 2, x.rebuild(5, -1));
            check.due("pool", 0, x.pool());
        }
        check.unsupported("rebuild with no bytes", () -> Vaults.emptied(Vaults.small(), 2), x -> x.rebuild(2, -1));
    }

    /** 18 bytes take 18 * 8 * 7 = 1008. */
    private static void moreThanAPool(Check check) {
        Supplier<SplitVault> full = () -> {
            SplitVault x = Vaults.fed(8, 9, 18 * 7);
            x.store(0, 1, 8);
            x.store(1, 2, 8);
            x.store(2, 3, 2);
            x.empty(4);
            Vaults.feed(x, 0, 1000);
            return x;
        };
        SplitVault x = full.get();
        check.due("need", 1008, x.need(2));
        check.due("pool", 1000, x.pool());
        check.due("rebuild of 18 bytes", "UnsupportedOperationException", Check.outcome(() -> x.rebuild(4, -1)));
        check.due("pool", 1000, x.pool());
        check.due("share", SplitVault.NONE, x.share(4, 0, 0));
        SplitVault y = full.get();
        y.forget(2);
        check.due("rebuild of 16 bytes", 16 * 72 + 2, y.rebuild(4, -1));
        check.due("pool", 1000 - 16 * 56, y.pool());
    }

    private static void argumentFirst(Check check) {
        for (int box : NO_BOXES) {
            check.illegalArgument("rebuild(" + box + ") with no helpers", Vaults::smallEmptied, x -> x.rebuild(box, 0));
            check.illegalArgument("rebuild(" + box + ") with a stopped job", () -> Vaults.smallStopped(3),
                    x -> x.rebuild(box, -1));
            check.illegalArgument("rebuild(" + box + ") with no bytes", () -> Vaults.emptied(Vaults.small(), 2),
                    x -> x.rebuild(box, -1));
        }
    }

    private static void stateBeforePool(Check check) {
        check.illegalState("rebuild of a filled box with no bytes", () -> Vaults.emptied(Vaults.small(), 2),
                x -> x.rebuild(1, -1));
        check.illegalState("rebuild with too few helpers and no bytes", () -> Vaults.emptied(Vaults.small(), 2),
                x -> x.rebuild(2, 1 << 1 | 1 << 2));
        Supplier<SplitVault> stoppedWithNoBytes = () -> {
            SplitVault x = Vaults.smallEmptied();
            x.stopAfter(1);
            x.rebuild(3, -1);
            return x;
        };
        check.illegalState("rebuild with a stopped job and no bytes", stoppedWithNoBytes, x -> x.rebuild(3, -1));
    }
}
