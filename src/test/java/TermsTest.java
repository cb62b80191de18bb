import java.util.List;

/**
 * "What it is" and the sentences of Terms that speak of all jobs or of none; those of one job, of
 * stopping and of exceptions are tried with the promises.
 */
public final class TermsTest {
    private static final long EIGHT = 0x00ff80017f5aa501L;

    public static void main(String[] args) {
        Check check = new Check();
        check.sentence("What it is: any k boxes give the files back, behind every job", TermsTest::anyBoxes);
        check.sentence("Terms: bytes are 0 .. 255", TermsTest::bytes);
        check.sentence("Terms: there are boxes 1 .. n", TermsTest::boxes);
        check.sentence("Terms: each box is filled or emptied", TermsTest::filledOrEmptied);
        check.sentence("Terms: there are files 0 .. 7, each kept or not", TermsTest::files);
        check.sentence("Terms: a file is of 1 to 8 bytes when it is kept", TermsTest::lengths);
        check.sentence("Terms: a polynomial of a degree below k, whose c0 is the byte", TermsTest::polynomials);
        check.sentence("Terms: jobs are storing, refreshing and rebuilding: no other call takes or sends",
                TermsTest::otherCalls);
        check.sentence("Terms: storing takes for each byte k - 1", TermsTest::takenByStoring);
        check.sentence("Terms: refreshing takes for each byte k - 1", TermsTest::takenByRefreshing);
        check.sentence("Terms: rebuilding takes for each byte k (k - 1)", TermsTest::takenByRebuilding);
        check.sentence("Terms: FLIP is sent from 0 to 0 behind all contents", TermsTest::flip);
        check.sentence("Terms: TIDY is sent from 0 behind FLIP", TermsTest::tidy);
        check.end();
    }

    /** All files and boxes in use, behind a storing, a refreshing, a rebuilding, and both again. */
    private static List<SplitVault> used(int k, int n) {
        SplitVault stored = full(k, n);
        SplitVault refreshed = full(k, n);
        refreshed.refresh();
        SplitVault rebuilt = full(k, n);
        rebuild(rebuilt, k, n);
        SplitVault again = full(k, n);
        again.refresh();
        rebuild(again, k, n);
        Vaults.feed(again, 99, 9 * (k - 1));
        again.refresh();
        return List.of(stored, refreshed, rebuilt, again);
    }

    /** With a file of 8 bytes and one of 1, and the bytes for a refreshing. */
    private static SplitVault full(int k, int n) {
        SplitVault x = Vaults.fed(k, n, 18 * (k - 1));
        x.store(0, EIGHT, 8);
        x.store(7, -1, 1);
        return x;
    }

    private static void rebuild(SplitVault x, int k, int n) {
        if (k < n) {
            x.empty(n / 2);
            Vaults.feed(x, 50, 9 * k * (k - 1));
            x.rebuild(n / 2, -1);
        }
    }

    private static void anyBoxes(Check check) {
        for (int k = 2; k <= 6; k++) {
            for (SplitVault x : used(k, 6)) {
                for (int mask = 0; mask < 1 << 7; mask += 2) {
                    int chosen = mask;
                    boolean enough = Integer.bitCount(mask) >= k;
                    check.due("file 0 by " + mask, enough ? Long.toString(EIGHT) : "IllegalStateException",
                            Check.outcome(() -> x.restore(0, chosen)));
                    check.due("file 7 by " + mask, enough ? "255" : "IllegalStateException",
                            Check.outcome(() -> x.restore(7, chosen)));
                }
            }
        }
    }

    private static void bytes(Check check) {
        for (JobKind job : JobKind.all()) {
            SplitVault x = job.done();
            for (int j = job.tidies() + 1; j < Math.min(64, job.messages()); j++) {
                check.due(job.name() + ": a content is a byte", true, isByte(x.message(j, 2)));
            }
        }
        for (int k = 2; k <= 8; k++) {
            for (SplitVault x : used(k, 9)) {
                for (int box = 1; box <= 9; box++) {
                    for (int b = 0; b < 8; b++) {
                        check.due("a share is a byte", true, isByte(x.share(box, 0, b)));
                    }
                    check.due("a share is a byte", true, isByte(x.share(box, 7, 0)));
                }
            }
        }
        SplitVault high = new SplitVault(2, 9);
        high.feed(-1, 8);
        high.store(0, -1, 1);
        check.due("255 + 255", 0, high.share(1, 0, 0));
        check.due("255 with nothing above it", 255, high.restore(0, -1));
    }

    private static boolean isByte(int number) {
        return number >= 0 && number <= 255;
    }

    private static void boxes(Check check) {
        for (int n = 2; n <= 9; n++) {
            SplitVault x = full(2, n);
            for (int box = -1; box <= 11; box++) {
                int number = box;
                boolean isThere = box >= 1 && box <= n;
                String share = Check.outcome(() -> x.share(number, 7, 0));
                check.due("a share in box " + box + " of " + n, isThere, !share.equals("IllegalArgumentException"));
            }
        }
    }

    private static void filledOrEmptied(Check check) {
        SplitVault x = full(2, 4);
        String before = Vaults.shares(x, 4, 7, 0);
        for (int box = 1; box <= 4; box++) {
            x.empty(box);
            check.due("box " + box + " emptied", SplitVault.NONE, x.share(box, 7, 0));
            int number = box;
            check.due("emptied again", "IllegalStateException", Check.outcome(() -> x.empty(number)));
            Vaults.feed(x, box, 18);
            x.rebuild(box, -1);
            check.due("filled again", before, Vaults.shares(x, 4, 7, 0));
            check.due("rebuilt again", "IllegalStateException", Check.outcome(() -> x.rebuild(number, -1)));
        }
    }

    private static void files(Check check) {
        SplitVault x = Vaults.fed(2, 2, 8);
        for (int file = 0; file < 8; file++) {
            check.due("not kept", 0, x.length(file));
            x.store(file, 100 + file, 1);
            check.due("kept", 1, x.length(file));
        }
        for (int file = 0; file < 8; file++) {
            check.due("file " + file, 100 + file, x.restore(file, -1));
        }
        for (int file : Vaults.NO_FILES) {
            check.due("file " + file, "IllegalArgumentException", Check.outcome(() -> x.length(file)));
        }
    }

    private static void lengths(Check check) {
        for (int length = -1; length <= 10; length++) {
            int wanted = length;
            SplitVault x = Vaults.fed(2, 2, 20);
            boolean isThere = length >= 1 && length <= 8;
            check.due("store of " + length, isThere ? Integer.toString(2 * length + 3) : "IllegalArgumentException",
                    Check.outcome(() -> x.store(3, -1, wanted)));
            check.due("length", isThere ? length : 0, x.length(3));
        }
    }

    /** k shares and the byte at 0 lie on one polynomial, and so does each share more. */
    private static void polynomials(Check check) {
        for (int k = 2; k <= 9; k++) {
            for (SplitVault x : used(k, 9)) {
                for (int b = 0; b < 8; b++) {
                    check.due("the byte", (int) (EIGHT >>> 8 * b) & 255, onFirst(x, k, b, 0));
                    for (int box = k + 1; box <= 9; box++) {
                        check.due("the share of box " + box, onFirst(x, k, b, box), x.share(box, 0, b));
                    }
                }
            }
        }
    }

    /** The value at a place of the polynomial through the shares of boxes 1 .. k. */
    private static int onFirst(SplitVault x, int k, int b, int place) {
        int value = 0;
        for (int g = 1; g <= k; g++) {
            int term = x.share(g, 0, b);
            for (int h = 1; h <= k; h++) {
                if (h != g) {
                    term = quotient(Model.product(term, place ^ h), g ^ h);
                }
            }
            value ^= term;
        }
        return value;
    }

    /** By the document's words: the byte whose product with b is a. */
    private static int quotient(int a, int b) {
        int q = 0;
        while (Model.product(q, b) != a) {
            q++;
        }
        return q;
    }

    private static void otherCalls(Check check) {
        for (Check.Call call : List.<Check.Call>of(SplitVault::pool, x -> x.empty(3), x -> x.stopAfter(0),
                SplitVault::resume, SplitVault::stopped, x -> x.restore(0, -1), x -> x.length(0),
                x -> x.share(1, 0, 0), x -> x.forget(0), x -> x.need(0), x -> x.need(1), x -> x.need(2),
                SplitVault::files, SplitVault::epoch, SplitVault::sent, x -> x.message(0, 0))) {
            SplitVault x = Vaults.smallFed();
            call.on(x);
            check.due("pool", 2, x.pool());
            check.due("sent", 7, x.sent());
        }
        SplitVault fed = Vaults.smallFed();
        fed.feed(1, 1);
        check.due("sent behind feed", 7, fed.sent());
    }

    private static void takenByStoring(Check check) {
        for (int k = 2; k <= 9; k++) {
            for (int length = 1; length <= 8; length++) {
                SplitVault x = Vaults.fed(k, 9, 100);
                x.store(1, 7, length);
                check.due("pool behind " + length + " bytes, k = " + k, 100 - length * (k - 1), x.pool());
            }
        }
    }

    private static void takenByRefreshing(Check check) {
        for (int k = 2; k <= 9; k++) {
            SplitVault x = full(k, 9);
            Vaults.feed(x, 0, 5);
            x.refresh();
            check.due("pool, k = " + k, 5, x.pool());
        }
    }

    private static void takenByRebuilding(Check check) {
        for (int k = 2; k <= 8; k++) {
            SplitVault x = full(k, 9);
            Vaults.feed(x, 0, 9 * k * (k - 1));
            x.empty(9);
            x.rebuild(9, -1);
            check.due("pool, k = " + k, 9 * (k - 1), x.pool());
        }
    }

    private static void flip(Check check) {
        for (JobKind job : JobKind.all()) {
            SplitVault x = job.stopped(job.contents() + 1);
            check.due(job.name(), "0>0:256", View.messages(x, 1));
            SplitVault before = job.stopped(job.contents());
            if (job.contents() > 0) {
                check.due(job.name() + ": before it", true, isByte(before.message(0, 2)));
            }
        }
    }

    /** The boxes that it is sent to are the last of all: n, or the one that was rebuilt. */
    private static void tidy(Check check) {
        for (JobKind job : JobKind.all()) {
            SplitVault x = job.done();
            for (int j = 0; j < job.tidies(); j++) {
                check.due(job.name() + ": sender", 0, x.message(j, 0));
                check.due(job.name() + ": receiver", x.message(0, 1) - j, x.message(j, 1));
                check.due(job.name() + ": content", SplitVault.TIDY, x.message(j, 2));
            }
            check.due(job.name() + ": before them", SplitVault.FLIP, x.message(job.tidies(), 2));
        }
    }
}
