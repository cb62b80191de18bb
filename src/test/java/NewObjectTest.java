/** Promise 1: how many boxes and parts there are; Terms: what a new object has. */
public final class NewObjectTest {
    private static final int[] TOO_SMALL = {Integer.MIN_VALUE, -9, -1, 0, 1};
    private static final int[] TOO_LARGE = {10, 11, 64, Integer.MAX_VALUE};
    private static final int[] ANY = {
        Integer.MIN_VALUE, -1, 0, 1, 2, 3, 4, 5, 6, 7, 8, 9, 10, Integer.MAX_VALUE
    };

    public static void main(String[] args) {
        Check check = new Check();
        check.sentence("Promise 1: n is boxes", NewObjectTest::boxesAsAsked);
        check.sentence("Promise 1: n is at least 2", NewObjectTest::tooFewBoxes);
        check.sentence("Promise 1: n is at most 9", NewObjectTest::tooManyBoxes);
        check.sentence("Promise 1: k is parts", NewObjectTest::partsAsAsked);
        check.sentence("Promise 1: k is at least 2", NewObjectTest::tooFewParts);
        check.sentence("Promise 1: k is at most n", NewObjectTest::tooManyParts);
        check.sentence("Terms: each box is filled at first", NewObjectTest::allFilled);
        check.sentence("Terms: no file is kept at first", NewObjectTest::noFiles);
        check.sentence("Terms: the pool has no bytes at first", NewObjectTest::emptyPool);
        check.sentence("Terms: the epoch is 0 at first", NewObjectTest::epoch);
        check.sentence("Promises 9, 10, 18, 19: no job is stopped and no message sent at first",
                NewObjectTest::noMessages);
        check.end();
    }

    /** Refreshing nothing sends FLIP, and TIDY to each box. */
    private static void boxes(Check check, int parts, int boxes, int want) {
        String made = "SplitVault(" + parts + ", " + boxes + ") ";
        check.due(made + "refresh", want + 1, new SplitVault(parts, boxes).refresh());
        check.due(made + "share of box n", "NoSuchElementException",
                Check.outcome(() -> new SplitVault(parts, boxes).share(want, 0, 0)));
        check.due(made + "share of box n + 1", "IllegalArgumentException",
                Check.outcome(() -> new SplitVault(parts, boxes).share(want + 1, 0, 0)));
    }

    /** Storing a byte takes k - 1, and just k boxes must stay filled. */
    private static void parts(Check check, int parts, int boxes, int want) {
        String made = "SplitVault(" + parts + ", " + boxes + ") ";
        SplitVault x = new SplitVault(parts, boxes);
        check.due(made + "need", want - 1, x.need(0));
        int n = x.refresh() - 1;
        for (int left = n - 1; left >= want; left--) {
            check.due(made + "empty", left, x.empty(left + 1));
        }
        check.due(made + "one emptied more", "IllegalStateException", Check.outcome(() -> x.empty(1)));
    }

    private static void boxesAsAsked(Check check) {
        for (int boxes = 2; boxes <= 9; boxes++) {
            for (int parts : ANY) {
                boxes(check, parts, boxes, boxes);
            }
        }
    }

    private static void tooFewBoxes(Check check) {
        for (int boxes : TOO_SMALL) {
            for (int parts : ANY) {
                boxes(check, parts, boxes, 2);
            }
        }
    }

    private static void tooManyBoxes(Check check) {
        for (int boxes : TOO_LARGE) {
            for (int parts : ANY) {
                boxes(check, parts, boxes, 9);
            }
        }
    }

    private static void partsAsAsked(Check check) {
        for (int boxes = 2; boxes <= 9; boxes++) {
            for (int parts = 2; parts <= boxes; parts++) {
                parts(check, parts, boxes, parts);
            }
        }
    }

    private static void tooFewParts(Check check) {
        for (int parts : TOO_SMALL) {
            for (int boxes : ANY) {
                parts(check, parts, boxes, 2);
            }
        }
    }

    private static void tooManyParts(Check check) {
        for (int boxes : ANY) {
            int n = Math.max(2, Math.min(9, boxes));
            for (int parts = n + 1; parts <= 12; parts++) {
                parts(check, parts, boxes, n);
            }
            parts(check, Integer.MAX_VALUE, boxes, n);
        }
    }

    private static void allFilled(Check check) {
        for (int n = 3; n <= 9; n++) {
            for (int box = 1; box <= n; box++) {
                int number = box;
                int boxes = n;
                check.due("empty(" + box + ")", n - 1, new SplitVault(2, n).empty(box));
                check.illegalState("rebuild(" + box + ")", () -> new SplitVault(2, boxes),
                        x -> x.rebuild(number, -1));
            }
        }
    }

    private static void noFiles(Check check) {
        SplitVault x = new SplitVault(3, 5);
        check.due("files", 0, x.files());
        for (int file = 0; file < 8; file++) {
            int number = file;
            check.due("length", 0, x.length(file));
            check.noSuchElement("restore", () -> new SplitVault(3, 5), y -> y.restore(number, -1));
        }
        check.due("need for refreshing", 0, x.need(1));
        check.due("need for rebuilding", 0, x.need(2));
    }

    private static void emptyPool(Check check) {
        check.due("pool", 0, new SplitVault(2, 2).pool());
        check.unsupported("store", () -> new SplitVault(2, 2), x -> x.store(0, 1, 1));
    }

    private static void epoch(Check check) {
        check.due("epoch", 0, new SplitVault(2, 2).epoch());
    }

    private static void noMessages(Check check) {
        SplitVault x = new SplitVault(9, 9);
        check.due("sent", 0, x.sent());
        check.due("stopped", false, x.stopped());
        check.due("resume", 0, x.resume());
        check.outOfBounds("message(0, 0)", () -> new SplitVault(9, 9), y -> y.message(0, 0));
    }
}
