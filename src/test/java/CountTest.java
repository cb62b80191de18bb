import java.util.function.Supplier;

/** Promises 14 to 18: forget, need, files, epoch and sent. */
public final class CountTest {
    public static void main(String[] args) {
        Check check = new Check();
        check.sentence("Promise 14: a file is not kept any more", CountTest::notKept);
        check.sentence("Promise 14: answers how many files are kept", CountTest::forgetAnswers);
        check.sentence("Promise 14: the other files stay as they are", CountTest::otherFiles);
        check.sentence("Promise 14: a file is forgotten also while a box is emptied", CountTest::whileEmptied);
        check.sentence("Promise 14: IllegalArgumentException: the file is not 0 .. 7", CountTest::forgetWrongFile);
        check.sentence("Promise 14: NoSuchElementException: it is not kept", CountTest::forgetNotKept);
        check.sentence("Promise 14: IllegalStateException: a job is stopped", CountTest::forgetStopped);
        check.sentence("Terms: forget throws the exception named first", CountTest::forgetOrder);
        check.sentence("Promise 15: storing one of one byte would take k - 1", CountTest::needOfStoring);
        check.sentence("Promise 15: refreshing would take k - 1 for each byte", CountTest::needOfRefreshing);
        check.sentence("Promise 15: rebuilding would take k (k - 1) for each byte", CountTest::needOfRebuilding);
        check.sentence("Promise 15: need tells of now", CountTest::needNow);
        check.sentence("Promise 15: IllegalArgumentException: job is none of these", CountTest::wrongJobs);
        check.sentence("Promise 16: how many files are kept, 0 to 8", CountTest::files);
        check.sentence("Promise 17: the epoch", CountTest::epoch);
        check.sentence("Promise 18: how many messages were sent in all", CountTest::sent);
        check.sentence("Promise 18: what a stopped job has not sent does not count before it is resumed",
                CountTest::sentOfStopped);
        check.end();
    }

    /** Files 0, 3 and 7, of 1, 2 and 8 bytes. */
    private static SplitVault three() {
        SplitVault x = Vaults.fed(2, 3, 50);
        x.store(7, -3, 8);
        x.store(0, 1, 1);
        x.store(3, 0x0202, 2);
        return x;
    }

    private static void notKept(Check check) {
        for (int file : new int[] {0, 3, 7}) {
            SplitVault x = three();
            x.forget(file);
            check.due("length", 0, x.length(file));
            check.due("files", 2, x.files());
            check.due("restore", "NoSuchElementException", Check.outcome(() -> x.restore(file, -1)));
            check.due("share", "NoSuchElementException", Check.outcome(() -> x.share(1, file, 0)));
            check.due("store", "7", Check.outcome(() -> x.store(file, 9, 1)));
        }
    }

    private static void forgetAnswers(Check check) {
        SplitVault x = Vaults.fed(2, 3, 8);
        for (int file = 0; file < 8; file++) {
            x.store(file, file, 1);
        }
        for (int left = 7; left >= 0; left--) {
            check.due("forget", left, x.forget((left + 3) % 8));
        }
    }

    private static void otherFiles(Check check) {
        SplitVault x = three();
        String shares = Vaults.shares(x, 3, 7, 7);
        int sent = x.sent();
        int pool = x.pool();
        x.forget(3);
        check.due("file 0", 1, x.restore(0, -1));
        check.due("file 7", -3, x.restore(7, -1));
        check.due("shares", shares, Vaults.shares(x, 3, 7, 7));
        check.due("sent", sent, x.sent());
        check.due("pool", pool, x.pool());
        check.due("epoch", 0, x.epoch());
    }

    private static void whileEmptied(Check check) {
        SplitVault x = three();
        x.empty(1);
        check.due("forget(3)", 2, x.forget(3));
        check.due("forget(0)", 1, x.forget(0));
        check.due("file 7", -3, x.restore(7, -1));
        check.due("forget(7)", 0, x.forget(7));
        check.due("rebuild with none", 2, x.rebuild(1, -1));
    }

    private static void forgetWrongFile(Check check) {
        for (int file : Vaults.NO_FILES) {
            check.illegalArgument("forget(" + file + ")", CountTest::three, x -> x.forget(file));
        }
    }

    private static void forgetNotKept(Check check) {
        for (int file : new int[] {1, 2, 4, 5, 6}) {
            check.noSuchElement("forget(" + file + ")", CountTest::three, x -> x.forget(file));
        }
        Supplier<SplitVault> forgotten = () -> {
            SplitVault x = three();
            x.forget(3);
            return x;
        };
        check.noSuchElement("forget(3) again", forgotten, x -> x.forget(3));
    }

    private static void forgetStopped(Check check) {
        for (Supplier<SplitVault> stopped : Vaults.stoppedOnes()) {
            check.illegalState("forget with a stopped job", stopped, x -> x.forget(0));
            SplitVault x = stopped.get();
            x.resume();
            check.due("forget behind it", 0, x.forget(0));
        }
        Supplier<SplitVault> storing = () -> {
            SplitVault x = Vaults.wishing(Vaults.smallFed(), 4);
            x.store(5, 1, 1);
            return x;
        };
        check.illegalState("forget of the file just stored, stopped behind FLIP", storing, x -> x.forget(5));
    }

    private static void forgetOrder(Check check) {
        for (Supplier<SplitVault> stopped : Vaults.stoppedOnes()) {
            for (int file : Vaults.NO_FILES) {
                check.illegalArgument("forget(" + file + ") with a stopped job", stopped, x -> x.forget(file));
            }
            for (int file = 1; file < 8; file++) {
                int number = file;
                check.noSuchElement("forget(" + file + ") with a stopped job", stopped, x -> x.forget(number));
            }
        }
    }

    private static SplitVault keeping(int k, int bytes) {
        SplitVault x = Vaults.fed(k, 9, bytes * (k - 1));
        for (int file = 0; 8 * file < bytes; file++) {
            x.store(file, 0, Math.min(8, bytes - 8 * file));
        }
        return x;
    }

    private static void needOfStoring(Check check) {
        for (int k = 2; k <= 9; k++) {
            for (int bytes : new int[] {0, 1, 64}) {
                check.due("need(0)", k - 1, keeping(k, bytes).need(0));
            }
        }
    }

    private static void needOfRefreshing(Check check) {
        for (int k = 2; k <= 9; k++) {
            for (int bytes : new int[] {0, 1, 8, 9, 63, 64}) {
                check.due("need(1)", bytes * (k - 1), keeping(k, bytes).need(1));
            }
        }
    }

    private static void needOfRebuilding(Check check) {
        for (int k = 2; k <= 9; k++) {
            for (int bytes : new int[] {0, 1, 8, 9, 63, 64}) {
                check.due("need(2)", bytes * k * (k - 1), keeping(k, bytes).need(2));
            }
        }
    }

    private static void needs(Check check, String when, SplitVault x, int bytes) {
        check.due("need(0) " + when, 2, x.need(0));
        check.due("need(1) " + when, bytes * 2, x.need(1));
        check.due("need(2) " + when, bytes * 6, x.need(2));
    }

    private static void needNow(Check check) {
        SplitVault x = Vaults.fed(3, 5, 60);
        x.store(0, 0, 8);
        needs(check, "behind store", x, 8);
        x.refresh();
        needs(check, "behind refresh", x, 8);
        x.stopAfter(0);
        needs(check, "with a wish", x, 8);
        x.store(5, 0, 2);
        needs(check, "with a stopped storing", x, 8);
        x.resume();
        needs(check, "behind a dropped storing", x, 8);
        x.store(5, 0, 3);
        needs(check, "behind a second store", x, 11);
        x.forget(0);
        needs(check, "behind forget", x, 3);
        x.empty(5);
        needs(check, "with a box emptied", x, 3);
        x.stopAfter(17);
        x.feed(0, 8);
        x.feed(0, 8);
        x.rebuild(5, -1);
        needs(check, "with a stopped rebuilding", x, 3);
    }

    private static void wrongJobs(Check check) {
        for (int job : new int[] {Integer.MIN_VALUE, -1, 3, 4, Integer.MAX_VALUE}) {
            check.illegalArgument("need(" + job + ")", CountTest::three, x -> x.need(job));
        }
    }

    private static void files(Check check) {
        SplitVault x = Vaults.fed(2, 3, 100);
        for (int file = 0; file < 8; file++) {
            check.due("files", file, x.files());
            x.store(file, 0, 8);
        }
        check.due("files", 8, x.files());
        for (int file = 7; file >= 0; file--) {
            x.forget(file);
            check.due("files", file, x.files());
        }
    }

    private static void epoch(Check check) {
        SplitVault x = three();
        for (int epoch = 0; epoch < 3; epoch++) {
            check.due("epoch", epoch, x.epoch());
            x.refresh();
        }
        SplitVault refused = Vaults.small();
        Check.outcome(refused::refresh);
        check.due("epoch behind a refused refresh", 0, refused.epoch());
    }

    private static void sent(Check check) {
        SplitVault x = Vaults.fed(2, 3, 100);
        int sent = 0;
        for (int file = 0; file < 8; file++) {
            sent += x.store(file, file, 1);
            check.due("sent", sent, x.sent());
        }
        check.due("sent", 56, sent);
        x.refresh();
        check.due("sent behind refresh", 56 + 28, x.sent());
        x.empty(1);
        check.due("sent behind empty", 84, x.sent());
        x.rebuild(1, -1);
        check.due("sent behind rebuild", 84 + 50, x.sent());
        x.forget(2);
        check.due("sent behind forget", 134, x.sent());
    }

    private static void sentOfStopped(Check check) {
        for (int m = 0; m <= 7; m++) {
            SplitVault x = Vaults.smallStopped(m);
            check.due("sent", 7 + m, x.sent());
            x.resume();
            check.due("sent behind resume", m < 4 ? 7 + m : 14, x.sent());
        }
    }
}
