import java.util.Random;
import java.util.concurrent.Callable;

/** All promises at once: long runs of calls, right and wrong, each compared with the model's answer. */
public final class ModelTest {
    private static final int CALLS = 512;
    private static final int RUNS_PER_SIZE = 12;

    private final Check check;
    private final Random random;
    private final SplitVault x;
    private final Model y;
    /** A job goes through more often when most bytes are fed. */
    private final int feedWeight;

    private ModelTest(Check check, long seed, int parts, int boxes) {
        this.check = check;
        random = new Random(seed);
        x = new SplitVault(parts, boxes);
        y = new Model(parts, boxes);
        feedWeight = 10 + random.nextInt(3) * 30;
    }

    public static void main(String[] args) {
        Check check = new Check();
        long seed = 1;
        for (int boxes = 1; boxes <= 10; boxes++) {
            for (int parts = 1; parts <= boxes + 1; parts++) {
                for (int run = 0; run < RUNS_PER_SIZE; run++) {
                    new ModelTest(check, seed++, parts, boxes).run();
                }
            }
        }
        check.end();
    }

    private void run() {
        for (int call = 0; call < CALLS; call++) {
            step();
            check.due("pool", y.pool.size(), x.pool());
            check.due("sent", y.sent.size(), x.sent());
            check.due("stopped", y.unsent != null, x.stopped());
            check.due("files", y.files(), x.files());
            check.due("epoch", y.epoch, x.epoch());
            if (call % 8 == 0 || call > CALLS - 8) {
                compareWhole();
            }
        }
    }

    private void step() {
        int kind = random.nextInt(100 + feedWeight);
        if (kind >= 100) {
            long bytes = random.nextLong();
            int m = random.nextInt(8) < 7 ? 8 : around(0, 9);
            both("feed(" + bytes + ", " + m + ")", () -> x.feed(bytes, m), () -> y.feed(bytes, m));
        } else if (kind < 25) {
            int file = around(0, 7);
            long bytes = random.nextLong();
            int length = around(1, 8);
            both("store(" + file + ", " + bytes + ", " + length + ")",
                    () -> x.store(file, bytes, length), () -> y.store(file, bytes, length));
        } else if (kind < 40) {
            both("refresh()", x::refresh, y::refresh);
        } else if (kind < 48) {
            int box = around(1, y.n);
            both("empty(" + box + ")", () -> x.empty(box), () -> y.empty(box));
        } else if (kind < 65) {
            rebuild();
        } else if (kind < 75) {
            int m = stop();
            both("stopAfter(" + m + ")", () -> stopProgram(m), () -> stopModel(m));
        } else if (kind < 85) {
            both("resume()", x::resume, y::resume);
        } else if (kind < 90) {
            int file = around(0, 7);
            both("forget(" + file + ")", () -> x.forget(file), () -> y.forget(file));
        } else {
            look();
        }
    }

    private void rebuild() {
        int box = around(1, y.n);
        for (int b = 1; b <= y.n && random.nextInt(4) > 0; b++) {
            box = y.emptied[b] ? b : box;
        }
        int chosen = box;
        int mask = mask();
        both("rebuild(" + chosen + ", " + mask + ")", () -> x.rebuild(chosen, mask), () -> y.rebuild(chosen, mask));
    }

    private void look() {
        int file = around(0, 7);
        int mask = mask();
        int box = around(1, y.n);
        int b = around(0, 7);
        int j = around(0, 64);
        int what = around(0, 2);
        both("restore(" + file + ", " + mask + ")", () -> x.restore(file, mask), () -> y.restore(file, mask));
        both("share(" + box + ", " + file + ", " + b + ")", () -> x.share(box, file, b), () -> y.share(box, file, b));
        both("message(" + j + ", " + what + ")", () -> x.message(j, what), () -> y.message(j, what));
        both("length(" + file + ")", () -> x.length(file), () -> y.length(file));
        both("need(" + what + ")", () -> x.need(what), () -> y.need(what));
    }

    private void compareWhole() {
        for (int file = 0; file < 8; file++) {
            int f = file;
            int mask = mask();
            both("restore", () -> x.restore(f, mask), () -> y.restore(f, mask));
            check.due("length", y.length(f), x.length(f));
            for (int box = 1; box <= y.n; box++) {
                for (int b = 0; b < y.length(f); b++) {
                    check.due("share", y.share(box, f, b), x.share(box, f, b));
                }
            }
        }
        for (int j = 0; j < Math.min(64, y.sent.size()); j++) {
            for (int what = 0; what <= 2; what++) {
                check.due("message", y.message(j, what), x.message(j, what));
            }
        }
    }

    private void both(String call, Callable<?> ofProgram, Callable<?> ofModel) {
        check.due(call, Check.outcome(ofModel), Check.outcome(ofProgram));
    }

    private Object stopProgram(int m) {
        x.stopAfter(m);
        return null;
    }

    private Object stopModel(int m) {
        y.stopAfter(m);
        return null;
    }

    /** Mostly near the end of the messages of one of the jobs. */
    private int stop() {
        int bytes = y.keptBytes();
        int contents = switch (random.nextInt(4)) {
            case 0 -> bytes * y.n;
            case 1 -> bytes * y.k * (y.k + 1);
            case 2 -> (1 + random.nextInt(8)) * y.n;
            default -> random.nextInt(100);
        };
        return Math.max(-2, contents - 1 + random.nextInt(y.n + 3));
    }

    private int mask() {
        return random.nextBoolean() ? random.nextInt() : random.nextInt() | random.nextInt() | random.nextInt();
    }

    /** Seldom one beside the range. */
    private int around(int first, int last) {
        return random.nextInt(20) == 0
                ? (random.nextBoolean() ? first - 1 : last + 1)
                : first + random.nextInt(last - first + 1);
    }
}
