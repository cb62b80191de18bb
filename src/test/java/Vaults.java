import java.util.List;
import java.util.function.Supplier;

/** Objects that are ready for a test. */
final class Vaults {
    static final int[] NO_FILES = {Integer.MIN_VALUE, -1, 8, 9, Integer.MAX_VALUE};

    private Vaults() {
    }

    /** With so many bytes in the pool, which are byteNumber(0), byteNumber(1) and so on. */
    static SplitVault fed(int parts, int boxes, int bytes) {
        SplitVault x = new SplitVault(parts, boxes);
        feed(x, 0, bytes);
        return x;
    }

    /** Puts the bytes of these numbers behind the pool, eight in a call: an object has but 512 calls. */
    static void feed(SplitVault x, int first, int count) {
        for (int done = 0; done < count; done += 8) {
            long bytes = 0;
            for (int b = 7; b >= 0; b--) {
                bytes = bytes << 8 | byteNumber(first + done + b);
            }
            x.feed(bytes, Math.min(8, count - done));
        }
    }

    /** A byte that differs from its neighbours and comes again only after 251. */
    static int byteNumber(int number) {
        return (number * 167 + 41) % 251 + 3;
    }

    /** k = 2, n = 3, file 0 is one byte 5 with 5 + 7 x: the shares are 2, 11, 12; the pool is empty. */
    static SplitVault small() {
        SplitVault x = new SplitVault(2, 3);
        x.feed(7, 1);
        x.store(0, 5, 1);
        return x;
    }

    /** The small one with two bytes more in the pool. */
    static SplitVault smallFed() {
        SplitVault x = small();
        x.feed(0x4221, 2);
        return x;
    }

    /** The small one with box 3 emptied and as many bytes in the pool as its rebuilding takes. */
    static SplitVault smallEmptied() {
        SplitVault x = smallFed();
        x.empty(3);
        return x;
    }

    /** The small one with a refreshing that has sent so many of its 7 messages; the 4th is FLIP. */
    static SplitVault smallStopped(int messages) {
        SplitVault x = smallFed();
        x.stopAfter(messages);
        x.refresh();
        return x;
    }

    static SplitVault wishing(SplitVault x, int m) {
        x.stopAfter(m);
        return x;
    }

    static SplitVault emptied(SplitVault x, int box) {
        x.empty(box);
        return x;
    }

    /** The small one, stopped at its start, just before FLIP, just behind it and before its last message. */
    static List<Supplier<SplitVault>> stoppedOnes() {
        return List.of(() -> smallStopped(0), () -> smallStopped(3), () -> smallStopped(4), () -> smallStopped(6));
    }

    static void forgetAll(SplitVault x) {
        for (int file = 0; file < 8; file++) {
            if (x.length(file) > 0) {
                x.forget(file);
            }
        }
    }

    /** How many boxes were emptied and have been rebuilt, or begun to be. */
    static int rebuildAll(SplitVault x) {
        int rebuilt = 0;
        for (int box = 1; box <= 9; box++) {
            int number = box;
            rebuilt += Check.outcome(() -> x.rebuild(number, -1)).contains("Exception") ? 0 : 1;
        }
        return rebuilt;
    }

    static String shares(SplitVault x, int boxes, int file, int b) {
        StringBuilder text = new StringBuilder();
        for (int box = 1; box <= boxes; box++) {
            text.append(box == 1 ? "" : " ").append(x.share(box, file, b));
        }
        return text.toString();
    }
}
