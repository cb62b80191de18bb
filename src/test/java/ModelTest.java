import java.util.Random;
import java.util.concurrent.Callable;

/** All promises at once: long runs of calls, right and wrong, each compared with the model's answer. */
public final class ModelTest {
    /** An object is used for no more. */
    private static final int CALLS = 512;
    private static final int RUNS_PER_SIZE = 60;

    private final Check check;
    private final Random random;
    private final SplitVault x;
    private final Model y;
    /** A job goes through more often when most bytes are fed. */
    private final int feedWeight;
    /** Some runs mostly act, others mostly look. */
    private final int lookWeight;

    private ModelTest(Check check, long seed, int parts, int boxes) {
        this.check = check;
        random = new Random(seed);
        x = new SplitVault(parts, boxes);
        y = new Model(parts, boxes);
        feedWeight = 10 + random.nextInt(3) * 30;
        lookWeight = 20 + random.nextInt(3) * 60;
    }

    public static void main(String[] args) {
        Check check = new Check();
        for (int boxes = 1; boxes <= 10; boxes++) {
            int asked = boxes;
            check.sentence("All promises: long runs with " + boxes + " boxes asked for", c -> runs(c, asked));
        }
        check.end();
    }

    private static void runs(Check check, int boxes) {
        for (int parts = 1; parts <= boxes + 1; parts++) {
            for (int run = 0; run < RUNS_PER_SIZE; run++) {
                new ModelTest(check, (boxes * 16L + parts) * RUNS_PER_SIZE + run, parts, boxes).run();
            }
        }
    }

    private void run() {
        for (int call = 0; call < CALLS; call++) {
            if (random.nextInt(100 + feedWeight + lookWeight) < lookWeight) {
                look();
            } else {
                act();
            }
        }
    }

    private void act() {
        int kind = random.nextInt(90 + feedWeight);
        if (kind >= 90) {
            long bytes = random.nextLong();
            int m = random.nextInt(8) < 7 ? 8 : around(1, 8);
            both("feed(" + bytes + ", " + m + ")", () -> x.feed(bytes, m), () -> y.feed(bytes, m));
        } else if (kind < 25) {
            int file = around(0, 7);
            long bytes = random.nextLong();
            int length = around(1, 8);
            both("store(" + file + ", " + bytes + ", " + length + ")",
                    () -> x.store(file, bytes, length), () -> y.store(file, bytes, length));
        } else if (kind < 40) {
            both("refresh()", x::refresh, y::refresh);
        } else if (kind < 48) {
            int box = around(1, y.n);
            both("empty(" + box + ")", () -> x.empty(box), () -> y.empty(box));
        } else if (kind < 65) {
            rebuild();
        } else if (kind < 75) {
            int m = stop();
            both("stopAfter(" + m + ")", () -> stopProgram(m), () -> stopModel(m));
        } else if (kind < 85) {
            both("resume()", x::resume, y::resume);
        } else {
            int file = around(0, 7);
            both("forget(" + file + ")", () -> x.forget(file), () -> y.forget(file));
        }
    }

    private void rebuild() {
        int box = around(1, y.n);
        for (int b = 1; b <= y.n && random.nextInt(4) > 0; b++) {
            box = y.emptied[b] ? b : box;
        }
        int chosen = box;
        int mask = mask();
        both("rebuild(" + chosen + ", " + mask + ")", () -> x.rebuild(chosen, mask), () -> y.rebuild(chosen, mask));
    }

    private void look() {
        int file = keptFile();
        int what = around(0, 2);
        switch (random.nextInt(12)) {
            case 0 -> both("pool()", x::pool, y.pool::size);
            case 1 -> both("sent()", x::sent, y.sent::size);
            case 2 -> both("stopped()", x::stopped, () -> y.unsent != null);
            case 3 -> both("files()", x::files, y::files);
            case 4 -> both("epoch()", x::epoch, () -> y.epoch);
            case 5 -> both("length(" + file + ")", () -> x.length(file), () -> y.length(file));
            case 6 -> both("need(" + what + ")", () -> x.need(what), () -> y.need(what));
            case 7, 8 -> lookAtMessage(random.nextBoolean() ? around(0, 63) : around(0, y.n), what);
            case 9 -> restore(file, mask());
            default -> lookAtShare(around(1, y.n), file, around(0, Math.max(0, lengthOf(file) - 1)));
        }
    }

    private void restore(int file, int mask) {
        both("restore(" + file + ", " + mask + ")", () -> x.restore(file, mask), () -> y.restore(file, mask));
    }

    private void lookAtShare(int box, int file, int b) {
        both("share(" + box + ", " + file + ", " + b + ")", () -> x.share(box, file, b), () -> y.share(box, file, b));
    }

    private void lookAtMessage(int j, int what) {
        both("message(" + j + ", " + what + ")", () -> x.message(j, what), () -> y.message(j, what));
    }

    private void both(String call, Callable<?> ofProgram, Callable<?> ofModel) {
        check.due(call, Check.outcome(ofModel), Check.outcome(ofProgram));
    }

    private Object stopProgram(int m) {
        x.stopAfter(m);
        return null;
    }

    private Object stopModel(int m) {
        y.stopAfter(m);
        return null;
    }

    /** Mostly near the end of the messages of one of the jobs. */
    private int stop() {
        int bytes = y.keptBytes();
        int contents = switch (random.nextInt(4)) {
            case 0 -> bytes * y.n;
            case 1 -> bytes * y.k * (y.k + 1);
            case 2 -> (1 + random.nextInt(8)) * y.n;
            default -> random.nextInt(100);
        };
        return contents - 2 + random.nextInt(y.n + 4);
    }

    private int mask() {
        return random.nextBoolean() ? random.nextInt() : random.nextInt() | random.nextInt() | random.nextInt();
    }

    /** Mostly one that is kept, as there is more to see of it. */
    private int keptFile() {
        int file = around(0, 7);
        for (int tries = 0; tries < 3 && lengthOf(file) == 0; tries++) {
            file = around(0, 7);
        }
        return file;
    }

    private int lengthOf(int file) {
        return file < 0 || file > 7 ? 0 : y.length(file);
    }

    /** Seldom one beside the range. */
    private int around(int first, int last) {
        return random.nextInt(20) == 0
                ? (random.nextBoolean() ? first - 1 : last + 1)
                : first + random.nextInt(last - first + 1);
    }
}
