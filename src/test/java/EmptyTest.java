import java.util.function.Supplier;

/** Promise 6: empty. */
public final class EmptyTest {
    public static void main(String[] args) {
        Check check = new Check();
        check.sentence("Promise 6: answers how many boxes are filled then", EmptyTest::answers);
        check.sentence("Promise 6: the box has no share any more, the others keep theirs", EmptyTest::shares);
        check.sentence("Promise 6: sends no message and takes no byte", EmptyTest::nothingElse);
        check.sentence("Terms: IllegalArgumentException when a box is not 1 .. n", EmptyTest::wrongBoxes);
        check.sentence("Promise 6: IllegalStateException: it is emptied", EmptyTest::emptiedAlready);
        check.sentence("Promise 6: IllegalStateException: fewer than k would be filled", EmptyTest::tooFewFilled);
        check.sentence("Promise 6: IllegalStateException: a job is stopped", EmptyTest::stoppedJob);
        check.sentence("Terms: IllegalArgumentException goes before IllegalStateException", EmptyTest::argumentFirst);
        check.sentence("Promise 7: a rebuilt box can be emptied again", EmptyTest::rebuilt);
        check.end();
    }

    private static void answers(Check check) {
        for (int n = 3; n <= 9; n++) {
            for (int k = 2; k < n; k++) {
                SplitVault x = new SplitVault(k, n);
                for (int box = n; box > k; box--) {
                    check.due("empty(" + box + ") of " + n, box - 1, x.empty(box));
                }
            }
        }
    }

    private static void shares(Check check) {
        for (int box = 1; box <= 3; box++) {
            SplitVault x = Vaults.emptied(Vaults.small(), box);
            String[] due = {"2", "11", "12"};
            due[box - 1] = "-1";
            check.due("shares", String.join(" ", due), Vaults.shares(x, 3, 0, 0));
            check.due("the file", 5, x.restore(0, -1));
        }
    }

    private static void nothingElse(Check check) {
        SplitVault x = Vaults.smallEmptied();
        check.due("sent", 7, x.sent());
        check.due("pool", 2, x.pool());
        check.due("files", 1, x.files());
        check.due("length", 1, x.length(0));
        check.due("epoch", 0, x.epoch());
    }

    private static void wrongBoxes(Check check) {
        for (int n = 2; n <= 9; n++) {
            int boxes = n;
            for (int box : new int[] {Integer.MIN_VALUE, -1, 0, n + 1, 10, Integer.MAX_VALUE}) {
                check.illegalArgument("empty(" + box + ") of " + n, () -> new SplitVault(2, boxes), x -> x.empty(box));
            }
        }
    }

    private static void emptiedAlready(Check check) {
        for (int box = 1; box <= 4; box++) {
            int number = box;
            check.illegalState("empty(" + box + ") again", () -> Vaults.emptied(Vaults.fed(2, 4, 9), number),
                    x -> x.empty(number));
        }
    }

    private static void tooFewFilled(Check check) {
        for (int n = 2; n <= 9; n++) {
            for (int k = 2; k <= n; k++) {
                int parts = k;
                int boxes = n;
                Supplier<SplitVault> justEnough = () -> {
                    SplitVault x = new SplitVault(parts, boxes);
                    for (int box = 1; box <= boxes - parts; box++) {
                        x.empty(box);
                    }
                    return x;
                };
                check.illegalState("empty(" + n + ") with k filled", justEnough, x -> x.empty(boxes));
            }
        }
    }

    private static void stoppedJob(Check check) {
        for (Supplier<SplitVault> stopped : Vaults.stoppedOnes()) {
            check.illegalState("empty with a stopped job", stopped, x -> x.empty(1));
            SplitVault x = stopped.get();
            x.resume();
            check.due("empty behind it", 2, x.empty(1));
        }
    }

    private static void argumentFirst(Check check) {
        for (int box : new int[] {Integer.MIN_VALUE, -1, 0, 4, Integer.MAX_VALUE}) {
            check.illegalArgument("empty(" + box + ") with k filled", () -> Vaults.emptied(Vaults.smallFed(), 1),
                    x -> x.empty(box));
            check.illegalArgument("empty(" + box + ") with a stopped job", () -> Vaults.smallStopped(3),
                    x -> x.empty(box));
        }
    }

    private static void rebuilt(Check check) {
        SplitVault x = Vaults.smallEmptied();
        x.rebuild(3, -1);
        check.due("empty(3) again", 2, x.empty(3));
        check.due("its share", SplitVault.NONE, x.share(3, 0, 0));
    }
}
