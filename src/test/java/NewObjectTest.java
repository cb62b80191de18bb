/** Promise 1: how many boxes and parts there are, and what a new object has. */
public final class NewObjectTest {
    private static final int[] ASKED = {
        Integer.MIN_VALUE, -1, 0, 1, 2, 3, 4, 5, 6, 7, 8, 9, 10, Integer.MAX_VALUE
    };

    public static void main(String[] args) {
        Check check = new Check();
        for (int parts : ASKED) {
            for (int boxes : ASKED) {
                sizes(check, parts, boxes);
            }
        }
        check.end();
    }

    private static void sizes(Check check, int parts, int boxes) {
        int n = boxes < 2 ? 2 : boxes > 9 ? 9 : boxes;
        int k = parts < 2 ? 2 : parts > n ? n : parts;
        String made = "SplitVault(" + parts + ", " + boxes + ") ";
        SplitVault x = new SplitVault(parts, boxes);
        check.due(made + "seen whole", "pool 0 files 0 epoch 0 sent 0 stopped false need "
                + (k - 1) + " 0 0\n", View.of(x));
        check.illegalArgument(made + "empty(0)", x, () -> x.empty(0));
        check.illegalArgument(made + "empty(n + 1)", x, () -> x.empty(n + 1));
        for (int left = n - 1; left >= k; left--) {
            check.due(made + "empty", left, x.empty(left + 1));
        }
        check.illegalState(made + "one emptied more", x, () -> x.empty(1));
    }
}
