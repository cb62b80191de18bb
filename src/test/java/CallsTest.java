import java.util.function.Supplier;

/** "An object is used for at most 512 calls": the last ones still answer as due. */
public final class CallsTest {
    private static final int CALLS = 512;

    public static void main(String[] args) {
        Check check = new Check();
        check.sentence("511 refreshings of nothing, and the epoch", CallsTest::refreshings);
        check.sentence("511 feeds, most of them refused, and the pool", CallsTest::feeds);
        check.sentence("storing and forgetting up to the 512th call", CallsTest::storings);
        check.sentence("emptying and rebuilding up to the 512th call", CallsTest::rebuildings);
        check.sentence("stopping and dropping up to the 512th call", CallsTest::droppings);
        check.sentence("as many messages as 512 calls can bring about", CallsTest::mostMessages);
        check.end();
    }

    private static void refreshings(Check check) {
        SplitVault x = new SplitVault(2, 9);
        for (int call = 1; call < CALLS; call++) {
            check.due("refresh", 10, x.refresh());
        }
        check.due("epoch", CALLS - 1, x.epoch());
        Supplier<SplitVault> all = () -> {
            SplitVault y = new SplitVault(2, 9);
            for (int call = 1; call < CALLS; call++) {
                y.refresh();
            }
            return y;
        };
        check.due("sent", 10 * (CALLS - 1), all.get().sent());
        check.due("message", SplitVault.FLIP, all.get().message(9, 2));
    }

    private static void feeds(Check check) {
        SplitVault x = new SplitVault(2, 2);
        for (int call = 1; call < CALLS; call++) {
            check.due("feed", call <= 125 ? Integer.toString(8 * call) : "UnsupportedOperationException",
                    Check.outcome(() -> x.feed(-1, 8)));
        }
        check.due("pool", 1000, x.pool());
    }

    /** The first call fed; 170 rounds of three; the last one tells the file. */
    private static void storings(Check check) {
        SplitVault x = Vaults.fed(2, 2, 8);
        for (int round = 1; round <= 170; round++) {
            check.due("store", 3 + 2 * 8, x.store(4, round, 8));
            check.due("feed", 8, x.feed(round, 8));
            if (round < 170) {
                check.due("forget", 0, x.forget(4));
            }
        }
        check.due("length", 8, x.length(4));
        check.due("restore", 170, x.restore(4, -1));
    }

    private static void rebuildings(Check check) {
        SplitVault x = new SplitVault(8, 9);
        for (int call = 1; call < CALLS; call += 2) {
            check.due("empty", 8, x.empty(call % 9 + 1));
            check.due("rebuild", 2, x.rebuild(call % 9 + 1, -1));
        }
    }

    private static void droppings(Check check) {
        SplitVault x = new SplitVault(2, 3);
        for (int round = 0; round < 170; round++) {
            x.stopAfter(0);
            check.due("refresh", 0, x.refresh());
            check.due("resume", 1, x.resume());
        }
        check.due("sent", 0, x.sent());
        check.due("epoch", 0, x.epoch());
    }

    /** 64 bytes over 9 boxes: 586 messages of a refreshing for 8 feeds. */
    private static void mostMessages(Check check) {
        SplitVault x = Vaults.fed(2, 9, 64);
        int sent = 0;
        for (int file = 0; file < 8; file++) {
            sent += x.store(file, file, 8);
        }
        for (int call = 16; call + 9 < CALLS; call += 9) {
            Vaults.feed(x, call, 64);
            sent += x.refresh();
        }
        check.due("sent as answered", 8 * 82 + 55 * 586, sent);
        check.due("sent", sent, x.sent());
    }
}
