import java.util.function.Supplier;

/** Promise 19: message. */
public final class MessageTest {
    private static final int[] NO_PARTS = {Integer.MIN_VALUE, -1, 3, 4, Integer.MAX_VALUE};

    public static void main(String[] args) {
        Check check = new Check();
        check.sentence("Promise 19: the sender, the receiver, the content", MessageTest::parts);
        check.sentence("Promise 19: 0 is the latest", MessageTest::latest);
        check.sentence("Promise 19: of fewer than 64 messages all are told", MessageTest::fewer);
        check.sentence("Promise 19: of 64 messages all are told", MessageTest::just64);
        check.sentence("Promise 19: of more than 64 messages the latest 64 are told", MessageTest::more);
        check.sentence("Promise 19: the latest 64 go round and round", MessageTest::goesRound);
        check.sentence("Promise 19: IndexOutOfBoundsException: there is none such", MessageTest::noneSuch);
        check.sentence("Promise 19: IllegalArgumentException: what is none of these", MessageTest::wrongParts);
        check.sentence("Terms: message throws IndexOutOfBoundsException before IllegalArgumentException",
                MessageTest::order);
        check.end();
    }

    private static void parts(Check check) {
        SplitVault x = Vaults.smallEmptied();
        x.rebuild(3, -1);
        int[][] due = {{0, 3, 257}, {0, 0, 256}, {2, 3, 0x6f}, {1, 3, 0x63}, {2, 2, 0xb9}, {2, 1, 0x42}};
        for (int j = 0; j < due.length; j++) {
            check.due("sender", due[j][0], x.message(j, 0));
            check.due("receiver", due[j][1], x.message(j, 1));
            check.due("content", due[j][2], x.message(j, 2));
        }
    }

    private static void latest(Check check) {
        SplitVault x = Vaults.smallFed();
        for (int m = 1; m <= 3; m++) {
            x.stopAfter(m);
            x.store(m, 0, 1);
            check.due("receiver", m, x.message(0, 1));
            x.resume();
            check.due("receiver", m, x.message(0, 1));
            x.feed(1, 1);
        }
    }

    /**
     * With so many messages sent, up to 656: a storing of 8 bytes over 9 boxes and refreshings, the last
     * job being cut short and dropped, or finished.
     */
    private static SplitVault sending(int messages) {
        SplitVault x = Vaults.fed(2, 9, 64);
        int left = messages;
        x.stopAfter(left);
        left -= x.store(0, 0, 8);
        x.resume();
        while (left > 0) {
            x.stopAfter(left);
            left -= x.refresh();
            x.resume();
        }
        return x;
    }

    /** The oldest message is the first one: 0>1 with the first byte. */
    private static void allTold(Check check, int count) {
        SplitVault x = sending(count);
        check.due("sent", count, x.sent());
        for (int j = 0; j < count; j++) {
            check.due("receiver of " + j, (count - 1 - j) % 9 + 1, x.message(j, 1));
            check.due("sender of " + j, 0, x.message(j, 0));
        }
        check.due("content of the first one", Vaults.byteNumber(0), x.message(count - 1, 2));
        check.due("message(" + count + ", 0)", "IndexOutOfBoundsException", Check.outcome(() -> x.message(count, 0)));
    }

    private static void fewer(Check check) {
        for (int count : new int[] {1, 2, 8, 62, 63}) {
            allTold(check, count);
        }
    }

    private static void just64(Check check) {
        allTold(check, 64);
    }

    /** The storing's k-th message is for box k % 9 + 1, its share's byte k / 9. */
    private static void more(Check check) {
        for (int count : new int[] {65, 66, 70, 72}) {
            SplitVault x = sending(count);
            check.due("sent", count, x.sent());
            for (int j = 0; j < 64; j++) {
                int k = count - 1 - j;
                check.due("receiver of " + j, k % 9 + 1, x.message(j, 1));
                if (k % 9 == 0) {
                    check.due("content of " + j, Vaults.byteNumber(k / 9), x.message(j, 2));
                }
            }
            check.due("message(64, 0)", "IndexOutOfBoundsException", Check.outcome(() -> x.message(64, 0)));
        }
    }

    private static void goesRound(Check check) {
        for (int count : new int[] {127, 128, 129, 191, 192, 193, 256, 300}) {
            SplitVault x = sending(count);
            check.due("sent", count, x.sent());
            for (int j = 0; j < 64; j++) {
                // 72 shares, FLIP and 9 times TIDY, and that again.
                int k = (count - 1 - j) % 82;
                check.due("receiver of " + j, k < 72 ? k % 9 + 1 : k - 72, x.message(j, 1));
                int content = x.message(j, 2);
                check.due("content of " + j, k < 72 ? 0 : k == 72 ? 256 : 257, content < 256 ? 0 : content);
            }
            check.due("message(63, 0)", 0, x.message(63, 0));
            check.due("message(64, 0)", "IndexOutOfBoundsException", Check.outcome(() -> x.message(64, 0)));
        }
    }

    private static void noneSuch(Check check) {
        for (int count : new int[] {0, 1, 7, 63, 64, 65, 82}) {
            Supplier<SplitVault> made = () -> sending(count);
            int told = Math.min(count, 64);
            for (int j : new int[] {Integer.MIN_VALUE, -1, told, told + 1, 65, Integer.MAX_VALUE}) {
                check.due("message(" + j + ", 2) of " + count, "IndexOutOfBoundsException",
                        Check.outcome(() -> made.get().message(j, 2)));
            }
        }
        for (int j : new int[] {Integer.MIN_VALUE, -1, 7, 64, Integer.MAX_VALUE}) {
            check.outOfBounds("message(" + j + ", 0) of 7", Vaults::smallFed, x -> x.message(j, 0));
        }
    }

    private static void wrongParts(Check check) {
        for (int what : NO_PARTS) {
            check.illegalArgument("message(0, " + what + ")", Vaults::smallFed, x -> x.message(0, what));
            check.illegalArgument("message(6, " + what + ")", Vaults::smallFed, x -> x.message(6, what));
            check.due("message(63, " + what + ") of 64", "IllegalArgumentException",
                    Check.outcome(() -> sending(64).message(63, what)));
        }
    }

    private static void order(Check check) {
        for (int what : NO_PARTS) {
            for (int j : new int[] {Integer.MIN_VALUE, -1, 7, 8, 64, Integer.MAX_VALUE}) {
                check.outOfBounds("message(" + j + ", " + what + ")", Vaults::smallFed, x -> x.message(j, what));
            }
            check.outOfBounds("message(0, " + what + ") of none", () -> new SplitVault(2, 3),
                    x -> x.message(0, what));
        }
    }
}
