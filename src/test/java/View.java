/** What an object answers, as one text. */
final class View {
    private static final int MOST_BOXES = 9;

    private View() {
    }

    /** All that can be seen of an object without changing it. */
    static String of(SplitVault x) {
        StringBuilder text = new StringBuilder();
        text.append("pool ").append(x.pool()).append(" sent ").append(x.sent());
        text.append(" stopped ").append(x.stopped()).append('\n');
        return text.append(kept(x)).append('\n').append(messages(x, 64)).toString();
    }

    /** What jobs change with FLIP: the files, their shares, the epoch and the boxes. */
    static String kept(SplitVault x) {
        StringBuilder text = new StringBuilder();
        text.append("files ").append(x.files()).append(" epoch ").append(x.epoch()).append(" need");
        for (int job = 0; job <= 2; job++) {
            text.append(' ').append(x.need(job));
        }
        for (int file = 0; file < 8; file++) {
            int number = file;
            int length = x.length(file);
            if (length > 0) {
                text.append("\nfile ").append(file).append(" is ");
                text.append(Check.outcome(() -> x.restore(number, -1)));
                addShares(text, x, file, length);
            }
        }
        return text.toString();
    }

    /** The latest messages, the latest one first, each as sender>receiver:content. */
    static String messages(SplitVault x, int most) {
        StringBuilder text = new StringBuilder();
        int count = Math.min(most, x.sent());
        for (int j = 0; j < count; j++) {
            text.append(j == 0 ? "" : " ").append(x.message(j, 0)).append('>').append(x.message(j, 1));
            text.append(':').append(x.message(j, 2));
        }
        return text.toString();
    }

    /**
     * What the calls behind answer, of which each tells something that is not seen at once: whether a
     * stopped job is finished or dropped, where the wish stops the next job, which boxes are emptied
     * and which bytes the pool has.
     */
    static String future(SplitVault x) {
        StringBuilder text = new StringBuilder();
        text.append(x.resume()).append(' ').append(messages(x, 3));
        for (int j = 0; j < 3; j++) {
            text.append(' ').append(Check.outcome(() -> x.feed(0x5b3c1d7e9fa2c4e6L, 8)));
        }
        for (int box = 1; box <= MOST_BOXES; box++) {
            int emptied = box;
            text.append("\nrebuild ").append(Check.outcome(() -> x.rebuild(emptied, -1)));
        }
        text.append("\nresume ").append(x.resume());
        for (int j = 0; j < 2; j++) {
            text.append("\nrefresh ").append(Check.outcome(x::refresh)).append(" resume ").append(x.resume());
        }
        for (int file = 0; file < 8; file++) {
            int number = file;
            text.append("\nstore ").append(Check.outcome(() -> x.store(number, 0, 1)));
        }
        return text.append('\n').append(kept(x)).append('\n').append(messages(x, 30)).toString();
    }

    private static void addShares(StringBuilder text, SplitVault x, int file, int length) {
        for (int box = 1; box <= MOST_BOXES; box++) {
            try {
                for (int b = 0; b < length; b++) {
                    text.append(b == 0 ? " / " : " ").append(x.share(box, file, b));
                }
            } catch (IllegalArgumentException noSuchBox) {
                return;
            }
        }
    }
}
