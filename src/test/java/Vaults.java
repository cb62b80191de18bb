/** Objects that are ready for a test. */
final class Vaults {
    private Vaults() {
    }

    /** With so many bytes in the pool that are not alike. */
    static SplitVault fed(int parts, int boxes, int bytes) {
        SplitVault x = new SplitVault(parts, boxes);
        feed(x, bytes);
        return x;
    }

    static void feed(SplitVault x, int bytes) {
        for (int j = 0; j < bytes; j++) {
            x.feed(j * 167 + 41, 1);
        }
    }

    /** k = 2, n = 3, file 0 is one byte 5 with 5 + 7 x: the shares are 2, 11, 12; the pool is empty. */
    static SplitVault small() {
        SplitVault x = new SplitVault(2, 3);
        x.feed(7, 1);
        x.store(0, 5, 1);
        return x;
    }

    static String shares(SplitVault x, int boxes, int file, int b) {
        StringBuilder text = new StringBuilder();
        for (int box = 1; box <= boxes; box++) {
            text.append(box == 1 ? "" : " ").append(x.share(box, file, b));
        }
        return text.toString();
    }
}
