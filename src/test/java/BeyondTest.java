import java.util.Random;
import java.util.Set;

/**
 * Calls behind the 512th, and arguments of every size: what is answered there is free, but each call ends,
 * and throws nothing but what its line of the face names (rules 6 and 7 of LANGUAGE.md).
 */
public final class BeyondTest extends Edges {
    private static final int OBJECTS = 12;
    private static final int CALLS = 6000;
    private static final int[] FAR = {Integer.MIN_VALUE, Integer.MIN_VALUE + 1, -65536, -2, -1, 0, 1, 2, 5, 6, 9, 10,
        16, 24, 100, 101, 600, 1023, 1024, 65536, 1 << 30, Integer.MAX_VALUE - 1, Integer.MAX_VALUE};
    private static final long[] FAR_NUMBERS = {Long.MIN_VALUE, Integer.MIN_VALUE, -1, 0, 1, 1L << 32, Long.MAX_VALUE};

    private static final Set<Class<?>> NONE = Set.of();
    private static final Set<Class<?>> OF_WRITES = Set.of(ARGUMENT, BOUNDS);
    private static final Set<Class<?>> OF_END = Set.of(STATE, BOUNDS);
    private static final Set<Class<?>> OF_GET = Set.of(ARGUMENT, NOTHING);

    private Random dice = new Random(0);
    private RunKeeper x = new RunKeeper();
    private int mostEntries = 0;

    public static void main(String[] args) {
        BeyondTest test = new BeyondTest();
        test.run(
                test::throwsOnlyWhatTheFaceNames);
    }

    // Seeds are fixed, so that every run of the tests makes the same calls.
    private void throwsOnlyWhatTheFaceNames() {
        due.by("No call may ever throw by itself (only by a throw statement) or fail to end");
        for (int seed = 0; seed < OBJECTS; seed++) {
            dice = new Random(seed);
            x = new RunKeeper();
            for (int call = 0; call < CALLS; call++) {
                anyCall(seed % 3);
            }
        }
        // Objects that never came near the limit would say too little of what lies there.
        due.same("600", String.valueOf(mostEntries));
    }

    private void anyCall(int kind) {
        int which = dice.nextInt(100);
        if (which < 60) {
            write();
        } else if (which < 60 + kind) {
            throwsOnly(Set.of(ARGUMENT), () -> x.merge(any(101)));
        } else {
            otherCall(which % 12);
        }
        mostEntries = Math.max(mostEntries, x.count(9, 0));
    }

    private void write() {
        if (dice.nextInt(3) == 0) {
            throwsOnly(OF_WRITES, () -> x.delete(any(1024)));
        } else {
            throwsOnly(OF_WRITES, () -> x.put(any(1024), FAR_NUMBERS[dice.nextInt(FAR_NUMBERS.length)]));
        }
    }

    private void otherCall(int which) {
        switch (which) {
            case 0 -> throwsOnly(Set.of(STATE), () -> done(x::batch));
            case 1, 2 -> throwsOnly(OF_END, () -> x.end(dice.nextInt(8) > 0));
            case 3 -> throwsOnly(NONE, x::sync);
            case 4 -> throwsOnly(NONE, x::flush);
            case 5 -> throwsOnly(NONE, () -> dice.nextInt(60) == 0 ? x.crash() : x.sync());
            case 6 -> throwsOnly(Set.of(BOUNDS), x::snapshot);
            case 7 -> throwsOnly(Set.of(ARGUMENT), () -> done(() -> x.release(any(6))));
            case 8 -> throwsOnly(OF_GET, () -> x.get(any(7) - 1, any(1024)));
            case 9 -> throwsOnly(Set.of(ARGUMENT), () -> x.next(any(7) - 1, any(1024)));
            case 10 -> throwsOnly(Set.of(ARGUMENT, BOUNDS), () -> x.entry(any(6), any(4), any(30), any(3)));
            default -> throwsOnly(Set.of(ARGUMENT), () -> x.count(any(10), any(6)));
        }
    }

    private int any(int below) {
        return dice.nextInt(8) == 0 ? FAR[dice.nextInt(FAR.length)] : dice.nextInt(below);
    }

    private static Object done(Due.Deed deed) {
        deed.make();
        return "done";
    }

    private void throwsOnly(Set<Class<?>> named, Due.Call call) {
        Class<?> thrown = thrownBy(call);
        boolean asDue = thrown == null || named.contains(thrown);
        due.same("an answer or one of " + named, asDue ? "an answer or one of " + named : thrown.toString());
    }

    private static Class<?> thrownBy(Due.Call call) {
        try {
            call.make();
            return null;
        } catch (RuntimeException e) {
            return e.getClass();
        }
    }
}
