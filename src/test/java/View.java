/** All that can be seen of an object without changing it, as one text. */
final class View {
    private static final int MOST_BOXES = 9;

    private View() {
    }

    static String of(SplitVault x) {
        StringBuilder text = new StringBuilder();
        text.append("pool ").append(x.pool()).append(" files ").append(x.files());
        text.append(" epoch ").append(x.epoch()).append(" sent ").append(x.sent());
        text.append(" stopped ").append(x.stopped()).append(" need");
        for (int job = 0; job <= 2; job++) {
            text.append(' ').append(x.need(job));
        }
        for (int file = 0; file < 8; file++) {
            if (x.length(file) > 0) {
                text.append("\nfile ").append(file).append(" is ");
                text.append(Check.outcome(restoring(x, file)));
                addShares(text, x, file);
            }
        }
        return text.append('\n').append(messages(x, 64)).toString();
    }

    /** The latest messages, the latest one first, each as sender>receiver:content. */
    static String messages(SplitVault x, int most) {
        StringBuilder text = new StringBuilder();
        for (int j = 0; j < Math.min(most, x.sent()); j++) {
            text.append(j == 0 ? "" : " ").append(x.message(j, 0)).append('>').append(x.message(j, 1));
            text.append(':').append(x.message(j, 2));
        }
        return text.toString();
    }

    private static java.util.concurrent.Callable<Long> restoring(SplitVault x, int file) {
        return () -> x.restore(file, -1);
    }

    private static void addShares(StringBuilder text, SplitVault x, int file) {
        for (int box = 1; box <= MOST_BOXES; box++) {
            try {
                for (int b = 0; b < x.length(file); b++) {
                    text.append(b == 0 ? " / " : " ").append(x.share(box, file, b));
                }
            } catch (IllegalArgumentException noSuchBox) {
                return;
            }
        }
    }
}
