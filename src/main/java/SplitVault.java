import java.util.Arrays;
import java.util.NoSuchElementException;

/**
 * Files split over boxes, so that any k boxes give them back: all shares are changed from time to
 * time without the files being changed, an emptied box is filled again without anybody joining a
 * file, and a job that was stopped is dropped or finished.
 *
 * <p>Only the boxes' shares are held, never a file or a polynomial, so that rebuilding and restoring
 * truly work from the boxes they name. Every row is made in a constructor and used again.
 */
public final class SplitVault {
    public static final int NONE = -1;
    public static final int FLIP = 256, TIDY = 257;

    private static final int MOST_BOXES = 9;
    private static final int LEAST_PARTS = 2;
    private static final int FILE_COUNT = 8;
    private static final int FILE_BYTES = 8;
    private static final int LONG_BYTES = 8;
    private static final int REGISTER = 0;
    private static final int STORING = 0, REFRESHING = 1, REBUILDING = 2;

    private final int parts;
    private final int boxes;
    private final Pool pool = new Pool();
    private final Job work = new Job();
    private final Helpers helpers;
    /** The shares of each box (1 .. n), by the slot of a file's byte. */
    private final int[][] held;
    /** What a job has dealt out and FLIP has not yet made valid; else of no meaning. */
    private final int[][] fresh;
    /** The taken bytes by which one byte's polynomial is made or changed, at their powers of x. */
    private final int[] changes;
    /** By file; 0 when it is not kept. */
    private final int[] lengths = new int[FILE_COUNT];
    /** By box; 0 has none. */
    private final boolean[] filled;
    private int epoch = 0;

    public SplitVault(int parts, int boxes) {
        this.boxes = Math.min(Math.max(boxes, LEAST_PARTS), MOST_BOXES);
        this.parts = Math.min(Math.max(parts, LEAST_PARTS), this.boxes);
        helpers = new Helpers(this.parts);
        held = new int[this.boxes + 1][FILE_COUNT * FILE_BYTES];
        fresh = new int[this.boxes + 1][FILE_COUNT * FILE_BYTES];
        changes = new int[this.parts];
        filled = new boolean[this.boxes + 1];
        for (int box = 1; box <= this.boxes; box++) {
            filled[box] = true;
        }
    }

    public int feed(long bytes, int m) throws IllegalArgumentException, UnsupportedOperationException {
        if (m < 1 || m > LONG_BYTES) {
            throw new IllegalArgumentException("not 1 to 8 bytes");
        }
        if (pool.count + m > Pool.MOST) {
            throw new UnsupportedOperationException("the pool is too full");
        }
        for (int b = 0; b < m; b++) {
            pool.put(Bytes.ofLong(bytes, b));
        }
        return pool.count;
    }

    public int pool() {
        return pool.count;
    }

    public int store(int file, long bytes, int length)
            throws IllegalArgumentException, IllegalStateException, UnsupportedOperationException {
        checkFile(file);
        if (length < 1 || length > FILE_BYTES) {
            throw new IllegalArgumentException("not 1 to 8 bytes");
        }
        if (lengths[file] > 0) {
            throw new IllegalStateException("the file is kept");
        }
        checkAllFilled();
        checkNoneStopped();
        checkPool(length * takenPerByte(STORING));
        work.begin();
        for (int b = 0; b < length; b++) {
            int slot = slot(file, b);
            for (int box = 1; box <= boxes; box++) {
                fresh[box][slot] = Bytes.ofLong(bytes, b);
            }
            change(slot);
        }
        if (work.flip()) {
            lengths[file] = length;
            adoptFile(file);
        }
        work.tidy(1, boxes);
        return work.sentNow;
    }

    public int refresh() throws IllegalStateException, UnsupportedOperationException {
        checkAllFilled();
        checkNoneStopped();
        checkPool(keptBytes() * takenPerByte(REFRESHING));
        work.begin();
        for (int file = 0; file < FILE_COUNT; file++) {
            for (int b = 0; b < lengths[file]; b++) {
                int slot = slot(file, b);
                for (int box = 1; box <= boxes; box++) {
                    fresh[box][slot] = held[box][slot];
                }
                change(slot);
            }
        }
        if (work.flip()) {
            for (int file = 0; file < FILE_COUNT; file++) {
                adoptFile(file);
            }
            epoch++;
        }
        work.tidy(1, boxes);
        return work.sentNow;
    }

    public int empty(int box) throws IllegalArgumentException, IllegalStateException {
        checkBox(box);
        if (!filled[box]) {
            throw new IllegalStateException("the box is emptied");
        }
        if (filledBoxes() - 1 < parts) {
            throw new IllegalStateException("too few boxes would be filled");
        }
        checkNoneStopped();
        filled[box] = false;
        // An emptied box has nothing left that a later rebuilding could lean on.
        Arrays.fill(held[box], 0);
        return filledBoxes();
    }

    public int rebuild(int box, int mask)
            throws IllegalArgumentException, IllegalStateException, UnsupportedOperationException {
        checkBox(box);
        if (filled[box]) {
            throw new IllegalStateException("the box is filled");
        }
        checkNoneStopped();
        chooseHelpers(mask);
        checkPool(keptBytes() * takenPerByte(REBUILDING));
        helpers.weigh(box);
        work.begin();
        for (int file = 0; file < FILE_COUNT; file++) {
            for (int b = 0; b < lengths[file]; b++) {
                rebuildByte(box, slot(file, b));
            }
        }
        if (work.flip()) {
            filled[box] = true;
            for (int file = 0; file < FILE_COUNT; file++) {
                adoptShares(box, file);
            }
        }
        work.tidy(box, box);
        return work.sentNow;
    }

    public void stopAfter(int m) throws IllegalArgumentException {
        if (m < Job.NO_STOP) {
            throw new IllegalArgumentException("not -1 or more");
        }
        work.wish = m;
    }

    public int resume() {
        if (!work.isStopped) {
            return 0;
        }
        if (!work.hasFlipped) {
            work.isStopped = false;
            return 1;
        }
        work.finish();
        return 2;
    }

    public boolean stopped() {
        return work.isStopped;
    }

    public long restore(int file, int mask)
            throws IllegalArgumentException, NoSuchElementException, IllegalStateException {
        checkFile(file);
        checkKept(file);
        chooseHelpers(mask);
        // A byte of the file is its polynomial's value at 0.
        helpers.weigh(0);
        long bytes = 0;
        for (int b = lengths[file] - 1; b >= 0; b--) {
            bytes = bytes << 8 | helpers.join(held, slot(file, b));
        }
        return bytes;
    }

    public int length(int file) throws IllegalArgumentException {
        checkFile(file);
        return lengths[file];
    }

    public int share(int box, int file, int b)
            throws IllegalArgumentException, NoSuchElementException, IndexOutOfBoundsException {
        checkBox(box);
        checkFile(file);
        checkKept(file);
        if (b < 0 || b >= lengths[file]) {
            throw new IndexOutOfBoundsException("the file has no such byte");
        }
        return filled[box] ? held[box][slot(file, b)] : NONE;
    }

    public int forget(int file)
            throws IllegalArgumentException, NoSuchElementException, IllegalStateException {
        checkFile(file);
        checkKept(file);
        checkNoneStopped();
        lengths[file] = 0;
        return keptFiles();
    }

    public int need(int job) throws IllegalArgumentException {
        if (job < STORING || job > REBUILDING) {
            throw new IllegalArgumentException("no such job");
        }
        return (job == STORING ? 1 : keptBytes()) * takenPerByte(job);
    }

    public int files() {
        return keptFiles();
    }

    public int epoch() {
        return epoch;
    }

    public int sent() {
        return work.log.total;
    }

    public int message(int j, int what) throws IndexOutOfBoundsException, IllegalArgumentException {
        if (j < 0 || j >= work.log.remembered()) {
            throw new IndexOutOfBoundsException("no such message");
        }
        if (what < 0 || what >= Log.PARTS) {
            throw new IllegalArgumentException("no such part of a message");
        }
        return work.log.look(j, what);
    }

    /** Adds the next taken bytes to a byte's polynomial and sends each box its share of the sum. */
    private void change(int slot) {
        for (int power = 1; power < parts; power++) {
            changes[power] = pool.take();
        }
        for (int box = 1; box <= boxes; box++) {
            fresh[box][slot] ^= Bytes.valueAt(changes, box);
            work.send(REGISTER, box, fresh[box][slot]);
        }
    }

    /** Lets the helpers send one another the pieces of their terms, and the sums to the box. */
    private void rebuildByte(int box, int slot) {
        helpers.clearSums();
        for (int g = 0; g < parts; g++) {
            int rest = helpers.term(g, held, slot);
            for (int h = 0; h < parts; h++) {
                int piece = h < parts - 1 ? pool.take() : rest;
                rest ^= piece;
                helpers.sums[h] ^= piece;
                work.send(helpers.numbers[g], helpers.numbers[h], piece);
            }
        }
        int share = 0;
        for (int h = 0; h < parts; h++) {
            share ^= helpers.sums[h];
            work.send(helpers.numbers[h], box, helpers.sums[h]);
        }
        fresh[box][slot] = share;
    }

    private void adoptFile(int file) {
        for (int box = 1; box <= boxes; box++) {
            adoptShares(box, file);
        }
    }

    private void adoptShares(int box, int file) {
        for (int b = 0; b < lengths[file]; b++) {
            held[box][slot(file, b)] = fresh[box][slot(file, b)];
        }
    }

    private static int slot(int file, int b) {
        return file * FILE_BYTES + b;
    }

    private int takenPerByte(int kind) {
        return kind == REBUILDING ? parts * (parts - 1) : parts - 1;
    }

    private int keptBytes() {
        int sum = 0;
        for (int file = 0; file < FILE_COUNT; file++) {
            sum += lengths[file];
        }
        return sum;
    }

    private int keptFiles() {
        int count = 0;
        for (int file = 0; file < FILE_COUNT; file++) {
            count += lengths[file] > 0 ? 1 : 0;
        }
        return count;
    }

    private int filledBoxes() {
        int count = 0;
        for (int box = 1; box <= boxes; box++) {
            count += filled[box] ? 1 : 0;
        }
        return count;
    }

    private static void checkFile(int file) {
        if (file < 0 || file >= FILE_COUNT) {
            throw new IllegalArgumentException("no such file");
        }
    }

    private void checkBox(int box) {
        if (box < 1 || box > boxes) {
            throw new IllegalArgumentException("no such box");
        }
    }

    private void checkKept(int file) {
        if (lengths[file] == 0) {
            throw new NoSuchElementException("the file is not kept");
        }
    }

    private void checkAllFilled() {
        if (filledBoxes() < boxes) {
            throw new IllegalStateException("a box is emptied");
        }
    }

    private void checkNoneStopped() {
        if (work.isStopped) {
            throw new IllegalStateException("a job is stopped");
        }
    }

    private void checkPool(int taken) {
        if (pool.count < taken) {
            throw new UnsupportedOperationException("the pool has too few bytes");
        }
    }

    private void chooseHelpers(int mask) {
        if (!helpers.choose(filled, mask)) {
            throw new IllegalStateException("too few filled boxes");
        }
    }

    /** The arithmetic of bytes; their sum is ^. */
    private static final class Bytes {
        private static final int BITS = 8;
        private static final int TOO_LONG = 1 << BITS;
        /** x^8 + x^4 + x^3 + x + 1 */
        private static final int MODULUS = 0x11b;

        static int ofLong(long bytes, int place) {
            return (int) (bytes >>> place * BITS) & 0xff;
        }

        static int product(int a, int b) {
            int sum = 0;
            int shifted = a;
            for (int bit = 0; bit < BITS; bit++) {
                if ((b >>> bit & 1) == 1) {
                    sum ^= shifted;
                }
                shifted <<= 1;
                if (shifted >= TOO_LONG) {
                    shifted ^= MODULUS;
                }
            }
            return sum;
        }

        static int quotient(int a, int b) {
            return product(a, inverse(b));
        }

        /** b to the power 254 = 2 + 4 + .. + 128, as each b other than 0 has b to the power 255 = 1. */
        private static int inverse(int b) {
            int result = 1;
            int power = b;
            for (int bit = 1; bit < BITS; bit++) {
                power = product(power, power);
                result = product(result, power);
            }
            return result;
        }

        /** The value at x of the polynomial with these coefficients, the lowest power first. */
        static int valueAt(int[] coefficients, int x) {
            int value = 0;
            for (int power = coefficients.length - 1; power >= 0; power--) {
                value = product(value, x) ^ coefficients[power];
            }
            return value;
        }
    }

    /** A row of bytes that is taken from at its front. */
    private static final class Pool {
        static final int MOST = 1000;
        private final int[] ring = new int[MOST];
        private int front = 0;
        int count = 0;

        /** Only for a pool of fewer than MOST bytes. */
        void put(int value) {
            ring[(front + count) % MOST] = value;
            count++;
        }

        /** Only for a pool that is not empty. */
        int take() {
            int value = ring[front];
            front = (front + 1) % MOST;
            count--;
            return value;
        }
    }

    /** The messages that were sent: how many, and the latest of them. */
    private static final class Log {
        static final int LATEST = 64;
        static final int PARTS = 3;
        private final int[] ring = new int[LATEST * PARTS];
        int total = 0;

        void note(int sender, int receiver, int content) {
            int at = total % LATEST * PARTS;
            ring[at] = sender;
            ring[at + 1] = receiver;
            ring[at + 2] = content;
            total++;
        }

        int remembered() {
            return Math.min(total, LATEST);
        }

        /** Only for 0 <= j < remembered() and 0 <= what < PARTS. */
        int look(int j, int what) {
            return ring[(total - 1 - j) % LATEST * PARTS + what];
        }
    }

    /**
     * The job under way or the last one. It goes through all its messages even when it is to stop, as
     * it takes all its bytes; those behind the stop are just not sent.
     */
    private static final class Job {
        static final int NO_STOP = -1;
        final Log log = new Log();
        int wish = NO_STOP;
        boolean isStopped = false;
        boolean hasFlipped = false;
        int sentNow = 0;
        private int limit = NO_STOP;
        private int nextTidy = 0;
        private int lastTidy = 0;

        void begin() {
            limit = wish;
            wish = NO_STOP;
            sentNow = 0;
        }

        boolean send(int sender, int receiver, int content) {
            if (sentNow == limit) {
                isStopped = true;
                return false;
            }
            log.note(sender, receiver, content);
            sentNow++;
            return true;
        }

        boolean flip() {
            hasFlipped = send(REGISTER, REGISTER, FLIP);
            return hasFlipped;
        }

        void tidy(int firstBox, int lastBox) {
            nextTidy = firstBox;
            lastTidy = lastBox;
            for (int box = firstBox; box <= lastBox; box++) {
                if (send(REGISTER, box, TIDY)) {
                    nextTidy = box + 1;
                }
            }
        }

        /** Behind FLIP only messages with TIDY can be left. */
        void finish() {
            isStopped = false;
            limit = NO_STOP;
            tidy(nextTidy, lastTidy);
        }
    }

    /** The k boxes whose shares are put together for a value of the polynomials elsewhere. */
    private static final class Helpers {
        final int[] numbers;
        final int[] sums;
        private final int[] weights;

        Helpers(int count) {
            numbers = new int[count];
            sums = new int[count];
            weights = new int[count];
        }

        /** Chooses the lowest filled boxes of the mask; whether there are enough. */
        boolean choose(boolean[] filled, int mask) {
            int found = 0;
            for (int box = 1; box < filled.length && found < numbers.length; box++) {
                if (filled[box] && (mask >>> box & 1) == 1) {
                    numbers[found] = box;
                    found++;
                }
            }
            return found == numbers.length;
        }

        /** Weighs the helpers for the value at a place that is none of theirs. */
        void weigh(int place) {
            for (int g = 0; g < numbers.length; g++) {
                int above = 1;
                int below = 1;
                for (int h = 0; h < numbers.length; h++) {
                    if (h != g) {
                        above = Bytes.product(above, place ^ numbers[h]);
                        below = Bytes.product(below, numbers[g] ^ numbers[h]);
                    }
                }
                weights[g] = Bytes.quotient(above, below);
            }
        }

        int term(int g, int[][] shares, int slot) {
            return Bytes.product(shares[numbers[g]][slot], weights[g]);
        }

        int join(int[][] shares, int slot) {
            int sum = 0;
            for (int g = 0; g < numbers.length; g++) {
                sum ^= term(g, shares, slot);
            }
            return sum;
        }

        void clearSums() {
            Arrays.fill(sums, 0);
        }
    }
}
