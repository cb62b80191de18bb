import java.util.function.Supplier;

/** Promises 11, 12 and 13: restore, length and share. */
public final class ReadTest {
    private static final long EIGHT = 0xff01000000c3007fL;
    private static final int[] NO_BOXES = {Integer.MIN_VALUE, -1, 0, 4, 9, 10, Integer.MAX_VALUE};
    private static final int[] NO_BYTES = {Integer.MIN_VALUE, -1, 1, 7, 8, Integer.MAX_VALUE};

    public static void main(String[] args) {
        Check check = new Check();
        check.sentence("Promise 11: the first byte lowest, and zeros above them", ReadTest::zerosAbove);
        check.sentence("Promise 11: by any k filled boxes of the mask", ReadTest::byJustK);
        check.sentence("Promise 11: IllegalStateException: there are fewer than k such", ReadTest::tooFewBoxes);
        check.sentence("Promise 11: other bits of the mask do not matter", ReadTest::otherBits);
        check.sentence("Promise 11: an emptied box does not count", ReadTest::emptiedBox);
        check.sentence("Promise 11: IllegalArgumentException: the file is not 0 .. 7", ReadTest::restoreWrongFile);
        check.sentence("Promise 11: NoSuchElementException: it is not kept", ReadTest::restoreNotKept);
        check.sentence("Terms: restore throws the exception named first", ReadTest::restoreOrder);
        check.sentence("Promise 11: restore changes nothing", ReadTest::restoreChangesNothing);
        check.sentence("Promise 12: how many bytes a file has", ReadTest::lengths);
        check.sentence("Promise 12: 0 when it is not kept", ReadTest::lengthNotKept);
        check.sentence("Promise 12: IllegalArgumentException: the file is not 0 .. 7", ReadTest::lengthWrongFile);
        check.sentence("Promise 13: the share that a box has of a byte", ReadTest::shares);
        check.sentence("Promise 13: NONE when the box is emptied", ReadTest::shareOfEmptied);
        check.sentence("Promise 13: IllegalArgumentException: the box is not 1 .. n", ReadTest::shareWrongBox);
        check.sentence("Promise 13: IllegalArgumentException: the file is not 0 .. 7", ReadTest::shareWrongFile);
        check.sentence("Promise 13: NoSuchElementException: the file is not kept", ReadTest::shareNotKept);
        check.sentence("Promise 13: IndexOutOfBoundsException: it has no such byte", ReadTest::shareNoByte);
        check.sentence("Terms: share throws the exception named first", ReadTest::shareOrder);
        check.end();
    }

    private static void zerosAbove(Check check) {
        for (int length = 1; length <= 8; length++) {
            SplitVault x = Vaults.fed(2, 3, 8);
            x.store(0, -1, length);
            check.due("restore of " + length, -1L >>> 64 - 8 * length, x.restore(0, -1));
            SplitVault y = Vaults.fed(2, 3, 8);
            y.store(7, EIGHT, length);
            check.due("restore of " + length, EIGHT & -1L >>> 64 - 8 * length, y.restore(7, -1));
        }
    }

    private static SplitVault keepingEight(int k, int n) {
        SplitVault x = Vaults.fed(k, n, 8 * (k - 1));
        x.store(7, EIGHT, 8);
        return x;
    }

    private static void byJustK(Check check) {
        for (int n = 2; n <= 9; n++) {
            for (int k = 2; k <= n; k++) {
                SplitVault x = keepingEight(k, n);
                for (int mask = 0; mask < 1 << n + 1; mask += 2) {
                    if (Integer.bitCount(mask) == k) {
                        check.due("restore(7, " + mask + ")", EIGHT, x.restore(7, mask));
                    }
                }
                check.due("restore by all", EIGHT, x.restore(7, (1 << n + 1) - 2));
            }
        }
    }

    private static void tooFewBoxes(Check check) {
        for (int n = 2; n <= 9; n++) {
            for (int k = 2; k <= n; k++) {
                SplitVault x = keepingEight(k, n);
                int calls = 0;
                for (int given = 0; given < 1 << n + 1 && calls < 400; given += 2) {
                    if (Integer.bitCount(given) == k - 1) {
                        int mask = given;
                        calls++;
                        check.due("restore(7, " + mask + ")", "IllegalStateException",
                                Check.outcome(() -> x.restore(7, mask)));
                    }
                }
                check.due("restore by none", "IllegalStateException", Check.outcome(() -> x.restore(7, 0)));
            }
        }
        check.illegalState("restore(0, 0)", Vaults::small, x -> x.restore(0, 0));
        check.illegalState("restore(0, 4)", Vaults::small, x -> x.restore(0, 4));
    }

    /** Bit 0 and those above n stand for no box. */
    private static void otherBits(Check check) {
        for (int n = 2; n <= 9; n++) {
            int others = ~((1 << n + 1) - 2);
            SplitVault x = keepingEight(2, n);
            check.due("restore by 1 and n and no boxes", EIGHT, x.restore(7, others | 1 << 1 | 1 << n));
            for (int box = 1; box <= n; box++) {
                int one = 1 << box;
                check.due("restore by " + box + " and no boxes", "IllegalStateException",
                        Check.outcome(() -> x.restore(7, others | one)));
            }
        }
    }

    private static void emptiedBox(Check check) {
        SplitVault x = Vaults.smallEmptied();
        check.due("restore by all", 5, x.restore(0, -1));
        check.due("restore by 1 and 2", 5, x.restore(0, 1 << 1 | 1 << 2));
        check.illegalState("restore by 1 and 3", Vaults::smallEmptied, y -> y.restore(0, 1 << 1 | 1 << 3));
        check.illegalState("restore by 2 and 3", Vaults::smallEmptied, y -> y.restore(0, 1 << 2 | 1 << 3));
        x.rebuild(3, -1);
        check.due("restore by 1 and 3, filled again", 5, x.restore(0, 1 << 1 | 1 << 3));
    }

    private static void restoreWrongFile(Check check) {
        for (int file : Vaults.NO_FILES) {
            check.illegalArgument("restore(" + file + ", -1)", Vaults::smallFed, x -> x.restore(file, -1));
        }
    }

    private static SplitVault forgotten() {
        SplitVault x = Vaults.smallFed();
        x.forget(0);
        return x;
    }

    private static void restoreNotKept(Check check) {
        for (int file = 1; file < 8; file++) {
            int number = file;
            check.noSuchElement("restore(" + file + ", -1)", Vaults::smallFed, x -> x.restore(number, -1));
        }
        check.noSuchElement("restore of a forgotten file", ReadTest::forgotten, x -> x.restore(0, -1));
    }

    private static void restoreOrder(Check check) {
        for (int file : Vaults.NO_FILES) {
            check.illegalArgument("restore(" + file + ", 0)", Vaults::smallFed, x -> x.restore(file, 0));
        }
        check.noSuchElement("restore(1, 0)", Vaults::smallFed, x -> x.restore(1, 0));
        check.noSuchElement("restore(7, 4)", Vaults::smallEmptied, x -> x.restore(7, 4));
    }

    private static void restoreChangesNothing(Check check) {
        for (Supplier<SplitVault> stopped : Vaults.stoppedOnes()) {
            SplitVault seen = stopped.get();
            check.due("restore", 5, seen.restore(0, -1));
            check.due("what is seen", View.of(stopped.get()), View.of(seen));
            SplitVault used = stopped.get();
            used.restore(0, 1 << 2 | 1 << 3);
            check.due("what later calls answer", View.future(stopped.get()), View.future(used));
        }
    }

    private static void lengths(Check check) {
        for (int length = 1; length <= 8; length++) {
            SplitVault x = Vaults.fed(2, 2, 30);
            x.store(0, 0, length);
            x.store(7, 0, 9 - length);
            check.due("length(0)", length, x.length(0));
            check.due("length(7)", 9 - length, x.length(7));
        }
    }

    private static void lengthNotKept(Check check) {
        SplitVault x = Vaults.fed(2, 2, 30);
        for (int file = 0; file < 8; file++) {
            check.due("length at first", 0, x.length(file));
        }
        x.store(3, 0, 8);
        check.due("length of another", 0, x.length(2));
        check.due("length of another", 0, x.length(4));
        x.forget(3);
        check.due("length forgotten", 0, x.length(3));
        x.store(3, 0, 2);
        check.due("length stored again", 2, x.length(3));
    }

    private static void lengthWrongFile(Check check) {
        for (int file : Vaults.NO_FILES) {
            check.illegalArgument("length(" + file + ")", Vaults::smallFed, x -> x.length(file));
        }
    }

    private static void shares(Check check) {
        SplitVault x = Vaults.small();
        check.due("shares of 5 + 7 x", "2 11 12", Vaults.shares(x, 3, 0, 0));
        SplitVault y = new SplitVault(2, 9);
        y.feed(0x0807060504030201L, 8);
        y.store(7, 0x1020304050607080L, 8);
        for (int b = 0; b < 8; b++) {
            check.due("share of box 1", (8 - b) * 16 ^ b + 1, y.share(1, 7, b));
        }
        check.due("share of box 9", 0x10 ^ 0x48, y.share(9, 7, 7));
    }

    private static void shareOfEmptied(Check check) {
        for (int box = 1; box <= 3; box++) {
            SplitVault x = Vaults.fed(2, 3, 9);
            x.store(0, 5, 1);
            x.store(7, EIGHT, 8);
            x.empty(box);
            check.due("share of file 0", SplitVault.NONE, x.share(box, 0, 0));
            for (int b = 0; b < 8; b++) {
                check.due("share of file 7", SplitVault.NONE, x.share(box, 7, b));
                check.due("share of another box", true, x.share(box % 3 + 1, 7, b) >= 0);
            }
        }
    }

    private static void shareWrongBox(Check check) {
        for (int box : NO_BOXES) {
            check.illegalArgument("share(" + box + ", 0, 0)", Vaults::smallFed, x -> x.share(box, 0, 0));
        }
    }

    private static void shareWrongFile(Check check) {
        for (int file : Vaults.NO_FILES) {
            check.illegalArgument("share(1, " + file + ", 0)", Vaults::smallFed, x -> x.share(1, file, 0));
        }
    }

    private static void shareNotKept(Check check) {
        for (int file = 1; file < 8; file++) {
            int number = file;
            check.noSuchElement("share(1, " + file + ", 0)", Vaults::smallFed, x -> x.share(1, number, 0));
        }
        check.noSuchElement("share of a forgotten file", ReadTest::forgotten, x -> x.share(1, 0, 0));
        check.noSuchElement("share in an emptied box", Vaults::smallEmptied, x -> x.share(3, 1, 0));
    }

    /** File 2 had 8 bytes, was forgotten and has 3 now. */
    private static SplitVault shorter() {
        SplitVault x = Vaults.fed(2, 3, 20);
        x.store(2, EIGHT, 8);
        x.forget(2);
        x.store(2, EIGHT, 3);
        return x;
    }

    private static void shareNoByte(Check check) {
        for (int b : NO_BYTES) {
            check.outOfBounds("share(1, 0, " + b + ")", Vaults::smallFed, x -> x.share(1, 0, b));
            check.outOfBounds("share(3, 0, " + b + ") emptied", Vaults::smallEmptied, x -> x.share(3, 0, b));
        }
        for (int b = 3; b <= 8; b++) {
            int none = b;
            check.outOfBounds("share(1, 2, " + b + ") of 3 bytes", ReadTest::shorter, x -> x.share(1, 2, none));
        }
        check.due("the last byte", true, shorter().share(1, 2, 2) >= 0);
        SplitVault eight = Vaults.fed(2, 3, 8);
        eight.store(5, EIGHT, 8);
        check.due("the last byte of 8", true, eight.share(1, 5, 7) >= 0);
        check.due("a byte behind 8", "IndexOutOfBoundsException", Check.outcome(() -> eight.share(1, 5, 8)));
    }

    private static void shareOrder(Check check) {
        for (int box : NO_BOXES) {
            check.illegalArgument("share(" + box + ", 1, 0)", Vaults::smallFed, x -> x.share(box, 1, 0));
            check.illegalArgument("share(" + box + ", 0, 1)", Vaults::smallFed, x -> x.share(box, 0, 1));
            check.illegalArgument("share(" + box + ", 8, -1)", Vaults::smallFed, x -> x.share(box, 8, -1));
        }
        for (int file : Vaults.NO_FILES) {
            check.illegalArgument("share(1, " + file + ", -1)", Vaults::smallFed, x -> x.share(1, file, -1));
            check.illegalArgument("share(3, " + file + ", 0)", Vaults::smallEmptied, x -> x.share(3, file, 0));
        }
        for (int b : NO_BYTES) {
            check.noSuchElement("share(1, 1, " + b + ")", Vaults::smallFed, x -> x.share(1, 1, b));
            check.noSuchElement("share(3, 1, " + b + ") emptied", Vaults::smallEmptied, x -> x.share(3, 1, b));
        }
    }
}
