import java.util.List;
import java.util.function.Supplier;

/** A job of each kind, ready to begin, and what is known of its messages. */
record JobKind(String name, Supplier<SplitVault> ready, Start start, int contents, int tidies) {
    interface Start {
        int on(SplitVault x);
    }

    /** In small and in larger vaults; each has just the bytes in its pool that the job takes, and 3 more. */
    static List<JobKind> all() {
        return List.of(
                storing(2, 2, 1), storing(2, 3, 2), storing(3, 4, 3), storing(9, 9, 1),
                refreshing(2, 2), refreshing(2, 3), refreshing(3, 5), refreshing(8, 8),
                rebuilding(2, 3), rebuilding(2, 4), rebuilding(3, 5),
                new JobKind("refreshing nothing", () -> Vaults.fed(2, 3, 3), SplitVault::refresh, 0, 3),
                new JobKind("rebuilding nothing", () -> Vaults.emptied(Vaults.fed(2, 3, 3), 2),
                        x -> x.rebuild(2, -1), 0, 1));
    }

    /** Beside a file that is kept already. */
    private static JobKind storing(int k, int n, int length) {
        return new JobKind("storing " + length + " bytes, " + k + " of " + n, () -> {
            SplitVault x = Vaults.fed(k, n, (length + 1) * (k - 1) + 3);
            x.store(2, 0xc9, 1);
            return x;
        }, x -> x.store(6, 0x4d3c2b1aL, length), length * n, n);
    }

    private static SplitVault twoFiles(int k, int n, int pool) {
        SplitVault x = Vaults.fed(k, n, 3 * (k - 1) + pool + 3);
        x.store(5, 0xe7, 1);
        x.store(0, 0x1f80, 2);
        return x;
    }

    private static JobKind refreshing(int k, int n) {
        return new JobKind("refreshing 3 bytes, " + k + " of " + n, () -> twoFiles(k, n, 3 * (k - 1)),
                SplitVault::refresh, 3 * n, n);
    }

    private static JobKind rebuilding(int k, int n) {
        return new JobKind("rebuilding 3 bytes, " + k + " of " + n,
                () -> Vaults.emptied(twoFiles(k, n, 3 * k * (k - 1)), n - 1),
                x -> x.rebuild(n - 1, -1), 3 * k * (k + 1), 1);
    }

    int messages() {
        return contents + 1 + tidies;
    }

    /** Whether so many messages are enough that FLIP is among them. */
    boolean flipsWith(int messages) {
        return messages > contents;
    }

    SplitVault done() {
        SplitVault x = ready.get();
        start.on(x);
        return x;
    }

    SplitVault stopped(int m) {
        SplitVault x = Vaults.wishing(ready.get(), m);
        start.on(x);
        return x;
    }
}
