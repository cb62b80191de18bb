/** The run of calls in README.md, with the answers that it tells. */
public final class ReadmeTest {
    public static void main(String[] args) {
        Check check = new Check();
        check.sentence("README.md: the answers of its run of calls", ReadmeTest::run);
        check.end();
    }

    private static void run(Check check) {
        SplitVault vault = new SplitVault(2, 3);
        check.due("feed", 8, vault.feed(0x0908070605040302L, 8));
        check.due("store", 7, vault.store(0, 0x2a, 1));
        check.due("refresh", 7, vault.refresh());
        check.due("empty", 2, vault.empty(3));
        check.due("rebuild", 8, vault.rebuild(3, 1 << 1 | 1 << 2));
        check.due("restore", 0x2a, vault.restore(0, 1 << 2 | 1 << 3));
        vault.stopAfter(3);
        check.due("refresh stopped", 3, vault.refresh());
        check.due("resume", 1, vault.resume());
        check.due("message", 0x23, vault.message(0, 2));
    }
}
