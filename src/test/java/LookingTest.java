import java.util.function.Supplier;

/** Promises 10 to 15: snapshot, release, get, next, entry and count. */
public final class LookingTest {
    private static final Class<IllegalArgumentException> ARGUMENT = IllegalArgumentException.class;
    private static final Class<IndexOutOfBoundsException> BOUNDS = IndexOutOfBoundsException.class;
    private static final Class<UnsupportedOperationException> NOTHING = UnsupportedOperationException.class;

    private final Due due = new Due("LookingTest");

    public static void main(String[] args) {
        LookingTest test = new LookingTest();
        test.snapshotTakesTheLeastNumber();
        test.snapshotIsOfTheLatestWrite();
        test.releaseRefusesWhatIsNotThere();
        test.releaseLetsMergingForget();
        test.getRefusesWrongArguments();
        test.getLooksEverywhere();
        test.getSeesAsOfASnapshot();
        test.nextFindsTheLeastKey();
        test.nextPassesByDeletedKeys();
        test.nextSeesAsOfASnapshot();
        test.nextForgetsWhatIsGone();
        test.nextRefusesWrongArguments();
        test.nextDoesNotProbe();
        test.entryTellsAllOfARun();
        test.entryRefusesWrongArguments();
        test.countRefusesWrongArguments();
        test.countTellsLevelsAndTable();
        test.countTellsSnapshotsAndBatch();
        test.probingEndsWhereTheKeyIsFound();
        test.probingGoesOnBehindTooLateEntries();
        test.probingWantsTheRange();
        test.probingWantsTheFilter();
        test.filterGrowsWithEveryEntry();
        test.filterIsOfTheMergedRun();
        test.probingIsKeptUntilTheNextGet();
        test.due.end();
    }

    private void snapshotTakesTheLeastNumber() {
        RunKeeper x = new RunKeeper();
        for (int number = 0; number < 6; number++) {
            due.is(number, x::snapshot);
        }
        due.refuses(BOUNDS, x::snapshot);
        due.is(6, () -> x.count(7, 0));
        x.release(4);
        x.release(2);
        due.is(4, () -> x.count(7, 0));
        due.is(2, x::snapshot);
        due.is(4, x::snapshot);
        due.refuses(BOUNDS, x::snapshot);
    }

    private void snapshotIsOfTheLatestWrite() {
        RunKeeper x = new RunKeeper();
        due.is(0, x::snapshot);
        x.put(1, 10);
        due.is(1, x::snapshot);
        x.batch();
        x.put(1, 11);
        due.is(2, x::snapshot);
        x.end(true);
        due.is(3, x::snapshot);
        x.put(1, 12);
        due.refuses(NOTHING, () -> x.get(0, 1));
        due.is(10, () -> x.get(1, 1));
        due.is(10, () -> x.get(2, 1));
        due.is(11, () -> x.get(3, 1));
        due.is(12, () -> x.get(-1, 1));
    }

    private void releaseRefusesWhatIsNotThere() {
        RunKeeper x = new RunKeeper();
        x.snapshot();
        for (int number : new int[] {-1, 1, 5, 6, Integer.MIN_VALUE, Integer.MAX_VALUE}) {
            due.refusesTo(ARGUMENT, () -> x.release(number));
        }
        due.is(1, () -> x.count(7, 0));
        due.isDone(() -> x.release(0));
        due.is(0, () -> x.count(7, 0));
        due.refusesTo(ARGUMENT, () -> x.release(0));
        due.refuses(ARGUMENT, () -> x.get(0, 1));
    }

    private void releaseLetsMergingForget() {
        RunKeeper x = new RunKeeper();
        Fill.putRuns(x, 1);
        x.snapshot();
        Fill.putRuns(x, 1);
        x.snapshot();
        Fill.putRuns(x, 1, 1);
        x.release(0);
        x.merge(1);
        due.same("1:4 1:2", Fill.run(x, 1, 0));
    }

    private void getRefusesWrongArguments() {
        RunKeeper x = new RunKeeper();
        x.put(1, 1);
        x.snapshot();
        for (int key : new int[] {-1, 1024, Integer.MIN_VALUE, Integer.MAX_VALUE}) {
            due.refuses(ARGUMENT, () -> x.get(-1, key));
            due.refuses(ARGUMENT, () -> x.get(0, key));
        }
        for (int number : new int[] {-2, 1, 5, 6, Integer.MIN_VALUE, Integer.MAX_VALUE}) {
            due.refuses(ARGUMENT, () -> x.get(number, 1));
            due.refuses(ARGUMENT, () -> x.get(number, 2));
        }
        due.refuses(NOTHING, () -> x.get(-1, 0));
        due.refuses(NOTHING, () -> x.get(0, 1023));
    }

    private void getLooksEverywhere() {
        RunKeeper x = new RunKeeper();
        Fill.putRuns(x, 1, 2, 3, 4);
        x.merge(1);
        x.put(2, 22);
        x.flush();
        x.put(3, 33);
        due.is(1, () -> x.get(-1, 1));
        due.is(22, () -> x.get(-1, 2));
        due.is(33, () -> x.get(-1, 3));
        x.delete(1);
        due.refuses(NOTHING, () -> x.get(-1, 1));
        x.flush();
        due.refuses(NOTHING, () -> x.get(-1, 1));
        x.put(1, 11);
        due.is(11, () -> x.get(-1, 1));
    }

    private void getSeesAsOfASnapshot() {
        RunKeeper x = new RunKeeper();
        x.put(1, 10);
        x.snapshot();
        x.delete(1);
        x.snapshot();
        x.put(1, 12);
        for (int i = 0; i < 2; i++) {
            due.is(10, () -> x.get(0, 1));
            due.refuses(NOTHING, () -> x.get(1, 1));
            due.is(12, () -> x.get(-1, 1));
            x.flush();
        }
        Fill.putRuns(x, 2, 3, 4);
        x.merge(1);
        due.is(10, () -> x.get(0, 1));
        due.refuses(NOTHING, () -> x.get(1, 1));
        due.is(12, () -> x.get(-1, 1));
    }

    private void nextFindsTheLeastKey() {
        RunKeeper x = new RunKeeper();
        Fill.putRuns(x, 1023, 40, 7);
        x.put(20, 1);
        due.is(7, () -> x.next(-1, 0));
        due.is(7, () -> x.next(-1, 7));
        due.is(20, () -> x.next(-1, 8));
        due.is(40, () -> x.next(-1, 21));
        due.is(1023, () -> x.next(-1, 41));
        due.is(1023, () -> x.next(-1, 1023));
        x.delete(1023);
        due.is(-1, () -> x.next(-1, 41));
        x.put(0, 0);
        due.is(0, () -> x.next(-1, 0));
    }

    private void nextPassesByDeletedKeys() {
        RunKeeper x = new RunKeeper();
        Fill.putRuns(x, 1, 2, 3);
        Fill.deleteRuns(x, 1);
        x.delete(2);
        due.is(3, () -> x.next(-1, 0));
        x.put(1, 1);
        due.is(1, () -> x.next(-1, 0));
        due.is(3, () -> x.next(-1, 2));
    }

    private void nextSeesAsOfASnapshot() {
        RunKeeper x = new RunKeeper();
        x.snapshot();
        x.put(5, 5);
        x.snapshot();
        x.delete(5);
        x.put(3, 3);
        x.snapshot();
        x.put(4, 4);
        x.flush();
        due.is(-1, () -> x.next(0, 0));
        due.is(5, () -> x.next(1, 0));
        due.is(3, () -> x.next(2, 0));
        due.is(-1, () -> x.next(2, 4));
        due.is(4, () -> x.next(-1, 4));
    }

    private void nextForgetsWhatIsGone() {
        RunKeeper x = new RunKeeper();
        x.put(1023, 1);
        x.sync();
        x.put(0, 1);
        x.put(9, 1);
        due.is(0, () -> x.next(-1, 0));
        x.crash();
        due.is(1023, () -> x.next(-1, 0));
        due.is(1023, () -> x.next(-1, 9));
    }

    private void nextRefusesWrongArguments() {
        RunKeeper x = new RunKeeper();
        x.put(1, 1);
        for (int key : new int[] {-1, 1024, Integer.MIN_VALUE, Integer.MAX_VALUE}) {
            due.refuses(ARGUMENT, () -> x.next(-1, key));
        }
        for (int number : new int[] {-2, 0, 5, 6, Integer.MIN_VALUE, Integer.MAX_VALUE}) {
            due.refuses(ARGUMENT, () -> x.next(number, 1));
        }
    }

    private void nextDoesNotProbe() {
        RunKeeper x = new RunKeeper();
        Fill.putRuns(x, 1);
        due.is(1, () -> x.next(-1, 0));
        due.is(0, () -> x.count(5, 0));
        x.get(-1, 1);
        x.next(-1, 2);
        due.is(1, () -> x.count(5, 0));
    }

    private void entryTellsAllOfARun() {
        RunKeeper x = new RunKeeper();
        Fill.putRuns(x, 9);
        x.put(4, 1);
        x.delete(4);
        x.put(2, 1);
        x.flush();
        due.is(9, () -> x.entry(0, 0, 0, 0));
        due.is(1, () -> x.entry(0, 0, 0, 1));
        due.is(0, () -> x.entry(0, 0, 0, 2));
        due.is(2, () -> x.entry(0, 1, 0, 0));
        due.is(4, () -> x.entry(0, 1, 0, 1));
        due.is(4, () -> x.entry(0, 1, 1, 0));
        due.is(3, () -> x.entry(0, 1, 1, 1));
        due.is(1, () -> x.entry(0, 1, 1, 2));
        due.is(2, () -> x.entry(0, 1, 2, 1));
        due.is(0, () -> x.entry(0, 1, 2, 2));
    }

    private void entryRefusesWrongArguments() {
        RunKeeper x = new RunKeeper();
        Fill.putRuns(x, 1, 2);
        for (int wrong : new int[] {-1, 6, Integer.MIN_VALUE, Integer.MAX_VALUE}) {
            due.refuses(ARGUMENT, () -> x.entry(wrong, 0, 0, 0));
            due.refuses(ARGUMENT, () -> x.entry(wrong, -1, -1, 0));
            due.refuses(ARGUMENT, () -> x.entry(0, 0, 0, wrong));
            due.refuses(ARGUMENT, () -> x.entry(0, -1, 9, wrong));
        }
        due.refuses(ARGUMENT, () -> x.entry(0, 0, 0, 3));
        for (int wrong : new int[] {-1, 2, Integer.MIN_VALUE, Integer.MAX_VALUE}) {
            due.refuses(BOUNDS, () -> x.entry(0, wrong, 0, 0));
            due.refuses(BOUNDS, () -> x.entry(0, 0, wrong, 0));
        }
        due.refuses(BOUNDS, () -> x.entry(0, 0, 1, 2));
        due.refuses(BOUNDS, () -> x.entry(1, 0, 0, 0));
        due.refuses(BOUNDS, () -> x.entry(5, 0, 0, 2));
    }

    private void countRefusesWrongArguments() {
        RunKeeper x = new RunKeeper();
        for (int what : new int[] {-1, 10, Integer.MIN_VALUE, Integer.MAX_VALUE}) {
            due.refuses(ARGUMENT, () -> x.count(what, 0));
        }
        for (int k : new int[] {-1, 6, Integer.MIN_VALUE, Integer.MAX_VALUE}) {
            due.refuses(ARGUMENT, () -> x.count(0, k));
            due.refuses(ARGUMENT, () -> x.count(1, k));
            for (int what = 2; what <= 9; what++) {
                int asked = what;
                due.is(what == 8 ? -1 : 0, () -> x.count(asked, k));
            }
        }
    }

    private void countTellsLevelsAndTable() {
        RunKeeper x = new RunKeeper();
        Fill.putRuns(x, 1, 2, 3, 4);
        x.merge(1);
        Fill.putKeys(x, 0, 24);
        Fill.putRuns(x, 5);
        Fill.putKeys(x, 0, 3);
        x.sync();
        Fill.putKeys(x, 0, 1);
        due.is(2, () -> x.count(0, 0));
        due.is(25, () -> x.count(1, 0));
        due.is(1, () -> x.count(0, 1));
        due.is(4, () -> x.count(1, 1));
        due.is(0, () -> x.count(1, 2));
        due.is(4, () -> x.count(2, 0));
        due.is(3, () -> x.count(3, 0));
        due.is(33, () -> x.count(4, 0));
        due.is(33, () -> x.count(9, 0));
    }

    private void countTellsSnapshotsAndBatch() {
        RunKeeper x = new RunKeeper();
        x.snapshot();
        x.snapshot();
        x.release(0);
        x.batch();
        Fill.putKeys(x, 0, 5);
        due.is(1, () -> x.count(7, 0));
        due.is(5, () -> x.count(8, 0));
        due.is(0, () -> x.count(9, 0));
        x.end(true);
        due.is(-1, () -> x.count(8, 0));
        due.is(5, () -> x.count(9, 0));
    }

    private void isProbed(RunKeeper x, int runs, int inVain) {
        due.is(runs, () -> x.count(5, 0));
        due.is(inVain, () -> x.count(6, 0));
    }

    private void probingEndsWhereTheKeyIsFound() {
        RunKeeper x = new RunKeeper();
        Fill.putRuns(x, 1, 1, 1, 1);
        x.merge(1);
        Fill.putRuns(x, 1, 2);
        due.is(1, () -> x.get(-1, 1));
        isProbed(x, 1, 0);
        x.delete(1);
        due.refuses(NOTHING, () -> x.get(-1, 1));
        isProbed(x, 0, 0);
        x.flush();
        due.refuses(NOTHING, () -> x.get(-1, 1));
        isProbed(x, 1, 0);
    }

    private void probingGoesOnBehindTooLateEntries() {
        RunKeeper x = new RunKeeper();
        x.snapshot();
        Fill.putRuns(x, 1);
        x.snapshot();
        Fill.putRuns(x, 1, 1);
        x.put(1, 5);
        due.is(1, () -> x.get(1, 1));
        isProbed(x, 3, 0);
        due.refuses(NOTHING, () -> x.get(0, 1));
        isProbed(x, 3, 0);
    }

    private void probingWantsTheRange() {
        RunKeeper x = flushedHundreds();
        // The filter has all bits of these, but they are not from the least to the greatest key.
        for (int key : new int[] {0, 17, 18, 815, 822, 1006}) {
            due.refuses(NOTHING, () -> x.get(-1, key));
            isProbed(x, 0, 0);
        }
        due.is(100, () -> x.get(-1, 100));
        isProbed(x, 1, 0);
        due.is(800, () -> x.get(-1, 800));
        isProbed(x, 1, 0);
    }

    private static boolean isOneOf(int key, int... keys) {
        for (int each : keys) {
            if (each == key) {
                return true;
            }
        }
        return false;
    }

    /** Asks new objects, as one is used for at most 512 calls. */
    private void probesInVain(Supplier<RunKeeper> made, int... keys) {
        for (int key = 0; key < 1024; key++) {
            int asked = key;
            if (key % 100 != 0 || key == 0 || key > 800) {
                RunKeeper x = made.get();
                due.refuses(NOTHING, () -> x.get(-1, asked));
                int expected = isOneOf(key, keys) ? 1 : 0;
                isProbed(x, expected, expected);
            }
        }
    }

    private void probingWantsTheFilter() {
        probesInVain(LookingTest::flushedHundreds,
                114, 117, 152, 222, 306, 343, 344, 394, 472, 506, 540, 666, 693, 726);
    }

    private static RunKeeper flushedHundreds() {
        RunKeeper x = Fill.hundreds();
        x.flush();
        return x;
    }

    private void filterGrowsWithEveryEntry() {
        probesInVain(LookingTest::flushedNine, 117, 343, 693);
    }

    private static RunKeeper flushedNine() {
        RunKeeper x = Fill.hundreds();
        x.put(100, 1);
        x.flush();
        return x;
    }

    private void filterIsOfTheMergedRun() {
        probesInVain(LookingTest::mergedHundreds,
                114, 117, 152, 222, 306, 343, 344, 394, 472, 506, 540, 666, 693, 726);
    }

    private static RunKeeper mergedHundreds() {
        RunKeeper x = new RunKeeper();
        Fill.putRuns(x, 800, 700, 600, 500, 400, 300, 200, 100, 100);
        x.merge(1);
        return x;
    }

    private void probingIsKeptUntilTheNextGet() {
        RunKeeper x = flushedHundreds();
        due.refuses(NOTHING, () -> x.get(-1, 114));
        isProbed(x, 1, 1);
        due.refuses(ARGUMENT, () -> x.get(-1, 1024));
        due.refuses(ARGUMENT, () -> x.get(0, 100));
        x.put(1, 1);
        x.flush();
        x.sync();
        x.merge(1);
        x.crash();
        isProbed(x, 1, 1);
        due.is(1, () -> x.get(-1, 1));
        isProbed(x, 1, 0);
    }
}
