import java.util.ArrayList;
import java.util.List;
import java.util.Random;

/** Long mixed runs of calls: every answer of RunKeeper is the one that Model gives. */
public final class ModelTest {
    private static final int RUNS = 1500;
    private static final int MOST_CALLS = 512;
    private static final int[] KEY_RANGES = {3, 12, 60, 400, 1024};
    private static final int[] NO_KEYS = {-1, 1024, Integer.MIN_VALUE, Integer.MAX_VALUE};

    private final Due due = new Due("ModelTest");
    private final Random dice;
    private final RunKeeper keeper = new RunKeeper();
    private final Model model = new Model();
    private final List<String> told = new ArrayList<>();
    private final int keys;
    private final int spread;
    private final int flushes;
    private final int crashes;
    private int deepestLevel = 0;
    private boolean same = true;

    // Seeds are fixed, so that every run of the tests makes the same calls.
    private ModelTest(int seed) {
        dice = new Random(seed);
        keys = KEY_RANGES[dice.nextInt(KEY_RANGES.length)];
        spread = dice.nextBoolean() ? 1 : 1024 / keys;
        flushes = dice.nextInt(3) * 20;
        crashes = dice.nextInt(3);
    }

    public static void main(String[] args) {
        Due all = new Due("ModelTest");
        int deepest = 0;
        for (int seed = 0; seed < RUNS; seed++) {
            ModelTest test = new ModelTest(seed);
            test.mix(seed % 3 == 0);
            test.dump();
            deepest = Math.max(deepest, test.deepestLevel);
            all.same("run " + seed + " as due", "run " + seed + (test.same ? " as due" : " not as due"));
        }
        // A mix that never came to level 3 would say too little of merging.
        all.same("3", String.valueOf(deepest));
        all.end();
    }

    private void both(String name, Due.Call ofKeeper, Due.Call ofModel) {
        if (!same || told.size() >= MOST_CALLS) {
            return;
        }
        String got = Due.answerOf(ofKeeper);
        String want = Due.answerOf(ofModel);
        told.add(name + " = " + got);
        if (!got.equals(want)) {
            same = false;
            due.same(want, got);
            told.forEach(System.out::println);
        }
    }

    private void mix(boolean eager) {
        int calls = 100 + dice.nextInt(MOST_CALLS - 100);
        while (same && told.size() < calls) {
            if (eager) {
                oneOfManyRuns();
            } else {
                anyCall();
            }
            deepestLevel = Math.max(deepestLevel, deepest());
        }
    }

    private int deepest() {
        int deepest = 0;
        for (int level = 1; level <= 5; level++) {
            deepest = model.count(0, level) > 0 ? level : deepest;
        }
        return deepest;
    }

    /** Calls that bring entries down to deep levels. */
    private void oneOfManyRuns() {
        write();
        both("flush()", keeper::flush, model::flush);
        if (model.count(0, 0) >= 4) {
            merge(1 + dice.nextInt(4));
        }
        if (dice.nextInt(12) == 0) {
            anyCall();
        }
    }

    private void anyCall() {
        int which = dice.nextInt(300);
        if (which < 110) {
            write();
        } else if (which < 110 + flushes) {
            both("flush()", keeper::flush, model::flush);
        } else if (which < 165) {
            merge(dice.nextInt(5));
        } else if (which < 165 + crashes) {
            both("crash()", keeper::crash, model::crash);
        } else if (which < 180) {
            both("sync()", keeper::sync, model::sync);
        } else if (which < 200) {
            batchOrEnd();
        } else if (which < 220) {
            snapshotOrRelease();
        } else if (which < 255) {
            look();
        } else if (which < 280) {
            count(dice.nextInt(12) - 1, dice.nextInt(8) - 1);
        } else if (which < 299) {
            entry(dice.nextInt(8) - 1, dice.nextInt(6) - 1, dice.nextInt(26) - 1, dice.nextInt(5) - 1);
        } else {
            merge(dice.nextInt(200) - 50);
        }
    }

    private int key() {
        return dice.nextInt(60) == 0 ? NO_KEYS[dice.nextInt(NO_KEYS.length)] : dice.nextInt(keys) * spread;
    }

    private void write() {
        int key = key();
        if (dice.nextInt(4) == 0) {
            both("delete(" + key + ")", () -> keeper.delete(key), () -> model.delete(key));
        } else {
            long v = dice.nextLong();
            both("put(" + key + ", " + v + ")", () -> keeper.put(key, v), () -> model.put(key, v));
        }
    }

    private void merge(int n) {
        both("merge(" + n + ")", () -> keeper.merge(n), () -> model.merge(n));
    }

    private void batchOrEnd() {
        if (dice.nextInt(3) > 0) {
            both("batch()", () -> voidOf(keeper::batch), () -> voidOf(model::batch));
        } else {
            boolean commit = dice.nextInt(5) > 0;
            both("end(" + commit + ")", () -> keeper.end(commit), () -> model.end(commit));
        }
    }

    private void snapshotOrRelease() {
        if (dice.nextBoolean()) {
            both("snapshot()", keeper::snapshot, model::snapshot);
        } else {
            int number = dice.nextInt(8) - 1;
            both("release(" + number + ")", () -> voidOf(() -> keeper.release(number)),
                    () -> voidOf(() -> model.release(number)));
        }
    }

    private static String voidOf(Due.Deed deed) {
        deed.make();
        return "done";
    }

    private void look() {
        int snapshot = dice.nextInt(8) - 2;
        int key = key();
        if (dice.nextInt(3) == 0) {
            both("next(" + snapshot + ", " + key + ")", () -> keeper.next(snapshot, key), () -> model.next(snapshot, key));
            return;
        }
        both("get(" + snapshot + ", " + key + ")", () -> keeper.get(snapshot, key), () -> model.get(snapshot, key));
        count(5, 0);
        count(6, 0);
    }

    private void count(int what, int k) {
        both("count(" + what + ", " + k + ")", () -> keeper.count(what, k), () -> model.count(what, k));
    }

    private void entry(int level, int r, int k, int what) {
        both("entry(" + level + ", " + r + ", " + k + ", " + what + ")",
                () -> keeper.entry(level, r, k, what), () -> model.entry(level, r, k, what));
    }

    /** Asks for the whole state, as far as the calls that are left go. */
    private void dump() {
        for (int what = 2; what <= 9; what++) {
            count(what, 0);
        }
        for (int level = 5; level >= 0; level--) {
            count(0, level);
            count(1, level);
            for (int r = 0; r < model.count(0, level); r++) {
                dumpRun(level, r);
            }
        }
    }

    private void dumpRun(int level, int r) {
        for (int k = 0; k < model.count(1, level) && told.size() < MOST_CALLS; k++) {
            entry(level, r, k, 1);
            entry(level, r, k, dice.nextBoolean() ? 0 : 2);
        }
    }
}
