import java.util.ArrayDeque;
import java.util.ArrayList;
import java.util.Arrays;
import java.util.Deque;
import java.util.List;
import java.util.NoSuchElementException;

/**
 * The document's words once more, in another way than the program: it holds the polynomials, knows a
 * job's messages beforehand and sends a part of that list.
 */
final class Model {
    final int k;
    final int n;
    final Deque<Integer> pool = new ArrayDeque<>();
    final int[][][] polynomials = new int[8][][];
    final boolean[] emptied = new boolean[10];
    final List<int[]> sent = new ArrayList<>();
    int epoch = 0;
    int wish = -1;
    /** The messages a stopped job has not sent; null when none is stopped. */
    List<int[]> unsent = null;

    Model(int parts, int boxes) {
        n = Math.max(2, Math.min(9, boxes));
        k = Math.max(2, Math.min(n, parts));
    }

    int feed(long bytes, int m) {
        argument(m >= 1 && m <= 8);
        supported(pool.size() + m <= 1000);
        for (int b = 0; b < m; b++) {
            pool.addLast((int) (bytes >> 8 * b & 255));
        }
        return pool.size();
    }

    int store(int file, long bytes, int length) {
        argument(file >= 0 && file <= 7 && length >= 1 && length <= 8);
        state(polynomials[file] == null && filledCount() == n && unsent == null);
        supported(pool.size() >= length * (k - 1));
        int[][] made = new int[length][k];
        List<int[]> messages = new ArrayList<>();
        for (int b = 0; b < length; b++) {
            made[b][0] = (int) (bytes >> 8 * b & 255);
            for (int c = 1; c < k; c++) {
                made[b][c] = pool.removeFirst();
            }
            addShares(messages, made[b]);
        }
        return run(messages, tidies(1, n), () -> polynomials[file] = made);
    }

    int refresh() {
        state(filledCount() == n && unsent == null);
        supported(pool.size() >= keptBytes() * (k - 1));
        int[][][] made = new int[8][][];
        List<int[]> messages = new ArrayList<>();
        for (int file = 0; file < 8; file++) {
            if (polynomials[file] != null) {
                made[file] = new int[polynomials[file].length][];
                for (int b = 0; b < made[file].length; b++) {
                    made[file][b] = polynomials[file][b].clone();
                    for (int c = 1; c < k; c++) {
                        made[file][b][c] ^= pool.removeFirst();
                    }
                    addShares(messages, made[file][b]);
                }
            }
        }
        return run(messages, tidies(1, n), () -> {
            System.arraycopy(made, 0, polynomials, 0, 8);
            epoch++;
        });
    }

    int empty(int box) {
        argument(box >= 1 && box <= n);
        state(!emptied[box] && filledCount() - 1 >= k && unsent == null);
        emptied[box] = true;
        return filledCount();
    }

    int rebuild(int box, int mask) {
        argument(box >= 1 && box <= n);
        List<Integer> chosen = chosen(mask);
        state(emptied[box] && chosen.size() >= k && unsent == null);
        supported(pool.size() >= keptBytes() * k * (k - 1));
        List<Integer> helpers = chosen.subList(0, k);
        List<int[]> messages = new ArrayList<>();
        for (int[][] polynomialsOfFile : polynomials) {
            if (polynomialsOfFile != null) {
                for (int[] polynomial : polynomialsOfFile) {
                    addPieces(messages, polynomial, box, helpers);
                }
            }
        }
        return run(messages, tidies(box, box), () -> emptied[box] = false);
    }

    void stopAfter(int m) {
        argument(m >= -1);
        wish = m;
    }

    int resume() {
        if (unsent == null) {
            return 0;
        }
        boolean dropped = unsent.stream().anyMatch(m -> m[2] == 256);
        if (!dropped) {
            sent.addAll(unsent);
        }
        unsent = null;
        return dropped ? 1 : 2;
    }

    long restore(int file, int mask) {
        argument(file >= 0 && file <= 7);
        kept(file);
        state(chosen(mask).size() >= k);
        long bytes = 0;
        for (int b = 0; b < polynomials[file].length; b++) {
            bytes += (long) polynomials[file][b][0] << 8 * b;
        }
        return bytes;
    }

    int length(int file) {
        argument(file >= 0 && file <= 7);
        return polynomials[file] == null ? 0 : polynomials[file].length;
    }

    int share(int box, int file, int b) {
        argument(box >= 1 && box <= n && file >= 0 && file <= 7);
        kept(file);
        if (b < 0 || b >= polynomials[file].length) {
            throw new IndexOutOfBoundsException();
        }
        return emptied[box] ? -1 : value(polynomials[file][b], box);
    }

    int forget(int file) {
        argument(file >= 0 && file <= 7);
        kept(file);
        state(unsent == null);
        polynomials[file] = null;
        return files();
    }

    int need(int job) {
        argument(job >= 0 && job <= 2);
        return job == 0 ? k - 1 : job == 1 ? keptBytes() * (k - 1) : keptBytes() * k * (k - 1);
    }

    int files() {
        return (int) Arrays.stream(polynomials).filter(f -> f != null).count();
    }

    int message(int j, int what) {
        if (j < 0 || j >= 64 || j >= sent.size()) {
            throw new IndexOutOfBoundsException();
        }
        argument(what >= 0 && what <= 2);
        return sent.get(sent.size() - 1 - j)[what];
    }

    private int run(List<int[]> messages, List<int[]> tidies, Runnable done) {
        int flipAt = messages.size();
        messages.add(new int[] {0, 0, 256});
        messages.addAll(tidies);
        int count = wish < 0 ? messages.size() : Math.min(wish, messages.size());
        wish = -1;
        sent.addAll(messages.subList(0, count));
        if (count < messages.size()) {
            unsent = messages.subList(count, messages.size());
        }
        if (count > flipAt) {
            done.run();
        }
        return count;
    }

    private void addShares(List<int[]> messages, int[] polynomial) {
        for (int box = 1; box <= n; box++) {
            messages.add(new int[] {0, box, value(polynomial, box)});
        }
    }

    private void addPieces(List<int[]> messages, int[] polynomial, int box, List<Integer> helpers) {
        int[] came = new int[10];
        for (int g : helpers) {
            int last = value(polynomial, g);
            for (int h : helpers) {
                last = h == g ? last : product(last, quotient(box ^ h, g ^ h));
            }
            for (int place = 0; place < k; place++) {
                int piece = place == k - 1 ? last : pool.removeFirst();
                last ^= piece;
                int h = helpers.get(place);
                came[h] ^= piece;
                messages.add(new int[] {g, h, piece});
            }
        }
        for (int h : helpers) {
            messages.add(new int[] {h, box, came[h]});
        }
    }

    private static List<int[]> tidies(int first, int last) {
        List<int[]> tidies = new ArrayList<>();
        for (int box = first; box <= last; box++) {
            tidies.add(new int[] {0, box, 257});
        }
        return tidies;
    }

    private List<Integer> chosen(int mask) {
        List<Integer> chosen = new ArrayList<>();
        for (int box = 1; box <= n; box++) {
            if (!emptied[box] && (mask & 1 << box) != 0) {
                chosen.add(box);
            }
        }
        return chosen;
    }

    private int filledCount() {
        return chosen(-1).size();
    }

    int keptBytes() {
        int sum = 0;
        for (int file = 0; file < 8; file++) {
            sum += length(file);
        }
        return sum;
    }

    private static int value(int[] polynomial, int x) {
        int sum = 0;
        int power = 1;
        for (int c : polynomial) {
            sum ^= product(c, power);
            power = product(power, x);
        }
        return sum;
    }

    /** The whole product first, of a degree up to 14, and then less multiples of the modulus. */
    static int product(int a, int b) {
        int whole = 0;
        for (int j = 0; j < 8; j++) {
            whole ^= (b >> j & 1) * (a << j);
        }
        for (int j = 14; j >= 8; j--) {
            whole ^= (whole >> j & 1) * (0b100011011 << j - 8);
        }
        return whole;
    }

    static int quotient(int a, int b) {
        for (int c = 0; c < 256; c++) {
            if (product(b, c) == a) {
                return c;
            }
        }
        throw new AssertionError("no quotient of " + a + " and " + b);
    }

    private void kept(int file) {
        if (polynomials[file] == null) {
            throw new NoSuchElementException();
        }
    }

    private static void argument(boolean holds) {
        if (!holds) {
            throw new IllegalArgumentException();
        }
    }

    private static void state(boolean holds) {
        if (!holds) {
            throw new IllegalStateException();
        }
    }

    private static void supported(boolean holds) {
        if (!holds) {
            throw new UnsupportedOperationException();
        }
    }
}
