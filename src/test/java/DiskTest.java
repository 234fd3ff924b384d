/** Promises 6 to 9: sync, flush, merge and crash. */
public final class DiskTest {
    private static final Class<IllegalArgumentException> ARGUMENT = IllegalArgumentException.class;
    private static final Class<UnsupportedOperationException> NOTHING = UnsupportedOperationException.class;

    private final Due due = new Due("DiskTest");

    public static void main(String[] args) {
        DiskTest test = new DiskTest();
        test.syncMakesTheLogSafe();
        test.flushSortsTheTable();
        test.flushEmptiesTheLog();
        test.mergeRefusesWrongNumbers();
        test.mergeWantsFourRuns();
        test.mergeTakesAllRuns();
        test.mergeGoesLevelByLevel();
        test.mergeLeavesTheLastLevelAlone();
        test.mergeTakesTheLeastLevelFirst();
        test.mergeKeepsTheGreatestOfAKey();
        test.mergeKeepsWhatSnapshotsSee();
        test.mergeLooksAtMergedRunsAlone();
        test.mergeLeavesOutDeletedOnes();
        test.mergeLeavesOutDeletedOnesWithSnapshots();
        test.mergeKeepsDeletedOnesAboveOthers();
        test.mergeMakesNoRunOfNothing();
        test.mergePutsTheNewRunLast();
        test.crashKeepsWhatIsSafe();
        test.crashKeepsRuns();
        test.crashDropsSnapshotsAndBatch();
        test.crashSetsTheSequenceBack();
        test.crashLeavesTheLogSafe();
        test.due.end();
    }

    private void syncMakesTheLogSafe() {
        RunKeeper x = new RunKeeper();
        due.is(0, x::sync);
        Fill.putKeys(x, 0, 3);
        due.is(0, () -> x.count(3, 0));
        due.is(3, x::sync);
        due.is(3, () -> x.count(3, 0));
        due.is(4, () -> x.put(1, 1));
        due.is(3, () -> x.count(3, 0));
        due.is(4, x::sync);
        due.is(4, x::sync);
        due.is(4, () -> x.count(3, 0));
        due.is(4, () -> x.count(2, 0));
    }

    private void flushSortsTheTable() {
        RunKeeper x = new RunKeeper();
        x.put(7, 1);
        x.put(2, 2);
        x.put(7, 3);
        x.delete(5);
        x.delete(2);
        due.is(5, x::flush);
        due.same("-2:5 2:2 -5:4 7:3 7:1", Fill.run(x, 0, 0));
        due.is(0, () -> x.count(2, 0));
        due.is(0, x::flush);
        due.is(1, () -> x.count(0, 0));
        x.put(1, 1);
        due.is(1, x::flush);
        due.same("1:6", Fill.run(x, 0, 1));
    }

    private void flushEmptiesTheLog() {
        RunKeeper x = new RunKeeper();
        Fill.putKeys(x, 0, 3);
        x.sync();
        due.is(3, x::flush);
        due.is(0, () -> x.count(3, 0));
        due.is(0, x::sync);
        x.put(1, 1);
        due.is(0, () -> x.count(3, 0));
        due.is(0, x::crash);
        due.is(3, () -> x.count(9, 0));
    }

    private void mergeRefusesWrongNumbers() {
        RunKeeper x = new RunKeeper();
        Fill.putRuns(x, 1, 2, 3, 4);
        for (int n : new int[] {-1, 101, Integer.MIN_VALUE, Integer.MAX_VALUE}) {
            due.refuses(ARGUMENT, () -> x.merge(n));
        }
        due.is(0, () -> x.merge(0));
        due.is(4, () -> x.count(0, 0));
        due.is(1, () -> x.merge(100));
    }

    private void mergeWantsFourRuns() {
        RunKeeper x = new RunKeeper();
        Fill.putRuns(x, 1, 2, 3);
        due.is(0, () -> x.merge(1));
        due.is(3, () -> x.count(0, 0));
        x.put(4, 4);
        due.is(0, () -> x.merge(1));
        x.flush();
        due.is(1, () -> x.merge(1));
        due.is(0, () -> x.count(0, 0));
        due.is(0, () -> x.count(1, 0));
        due.is(1, () -> x.count(0, 1));
        due.is(4, () -> x.count(1, 1));
        due.same("1:1 2:2 3:3 4:4", Fill.run(x, 1, 0));
    }

    private void mergeTakesAllRuns() {
        RunKeeper x = new RunKeeper();
        Fill.putRuns(x, 5, 4, 3, 2, 1, 0);
        due.is(1, () -> x.merge(7));
        due.same("0:6 1:5 2:4 3:3 4:2 5:1", Fill.run(x, 1, 0));
    }

    private void mergeGoesLevelByLevel() {
        RunKeeper x = new RunKeeper();
        for (int i = 0; i < 15; i++) {
            Fill.putRuns(x, 4 * i, 4 * i + 1, 4 * i + 2, 4 * i + 3);
            x.merge(100);
        }
        due.is(3, () -> x.count(0, 1));
        due.is(3, () -> x.count(0, 2));
        Fill.putRuns(x, 60, 61, 62, 63);
        due.is(3, () -> x.merge(100));
        due.is(0, () -> x.count(0, 1));
        due.is(0, () -> x.count(0, 2));
        due.is(1, () -> x.count(0, 3));
        due.is(64, () -> x.count(1, 3));
        due.is(63, () -> x.entry(3, 0, 63, 0));
        due.is(17, () -> x.get(-1, 17));
    }

    // Four runs of level 5 need far more than the 512 calls that the document speaks of, and so what is
    // answered there is free: this says that merging ends at that level all the same.
    private void mergeLeavesTheLastLevelAlone() {
        RunKeeper x = new RunKeeper();
        for (int i = 0; i < 5 * 1024; i++) {
            Fill.putRuns(x, 1);
            x.merge(100);
        }
        due.is(5, () -> x.count(0, 5));
        due.is(5, () -> x.count(9, 0));
        due.is(0, () -> x.merge(100));
        due.same("1:2048", Fill.run(x, 5, 1));
    }

    private void mergeTakesTheLeastLevelFirst() {
        RunKeeper x = new RunKeeper();
        for (int i = 0; i < 4; i++) {
            Fill.putRuns(x, 1, 2, 3, 4);
            x.merge(1);
        }
        Fill.putRuns(x, 5, 6, 7, 8);
        due.is(4, () -> x.count(0, 1));
        due.is(1, () -> x.merge(1));
        due.is(5, () -> x.count(0, 1));
        due.is(0, () -> x.count(0, 0));
        due.is(1, () -> x.merge(1));
        due.is(0, () -> x.count(0, 1));
        due.is(8, () -> x.count(1, 2));
    }

    private void mergeKeepsTheGreatestOfAKey() {
        RunKeeper x = new RunKeeper();
        x.put(1, 10);
        x.put(1, 11);
        x.flush();
        x.put(2, 20);
        x.put(1, 12);
        x.flush();
        Fill.putRuns(x, 1, 3);
        due.is(1, () -> x.merge(1));
        due.same("1:5 2:3 3:6", Fill.run(x, 1, 0));
        due.is(1, () -> x.get(-1, 1));
        due.is(3, () -> x.count(9, 0));
    }

    private void mergeKeepsWhatSnapshotsSee() {
        RunKeeper x = new RunKeeper();
        x.snapshot();
        x.put(1, 10);
        x.snapshot();
        x.put(1, 11);
        x.put(1, 12);
        x.snapshot();
        x.snapshot();
        x.put(2, 20);
        x.snapshot();
        x.delete(1);
        x.flush();
        Fill.putRuns(x, 1, 3, 3);
        x.release(3);
        due.is(1, () -> x.merge(1));
        due.same("1:6 1:3 1:1 2:4 3:8", Fill.run(x, 1, 0));
        due.refuses(NOTHING, () -> x.get(0, 1));
        due.is(10, () -> x.get(1, 1));
        due.is(12, () -> x.get(2, 1));
        due.is(12, () -> x.get(4, 1));
        due.is(1, () -> x.get(-1, 1));
    }

    private void mergeLooksAtMergedRunsAlone() {
        RunKeeper x = new RunKeeper();
        Fill.putRuns(x, 1, 1, 1, 1);
        x.put(1, 7);
        x.snapshot();
        x.put(1, 8);
        due.is(1, () -> x.merge(1));
        due.same("1:4", Fill.run(x, 1, 0));
        x.flush();
        Fill.putRuns(x, 1, 1, 1);
        due.is(1, () -> x.merge(1));
        due.same("1:4", Fill.run(x, 1, 0));
        due.same("1:9 1:5", Fill.run(x, 1, 1));
    }

    private void mergeLeavesOutDeletedOnes() {
        RunKeeper x = new RunKeeper();
        Fill.putRuns(x, 1, 2);
        Fill.deleteRuns(x, 1, 3);
        due.is(1, () -> x.merge(1));
        due.same("2:2", Fill.run(x, 1, 0));
        due.is(1, () -> x.count(9, 0));
        due.is(4, () -> x.count(4, 0));
        due.refuses(NOTHING, () -> x.get(-1, 1));
    }

    private void mergeLeavesOutDeletedOnesWithSnapshots() {
        RunKeeper x = new RunKeeper();
        x.delete(1);
        x.snapshot();
        x.delete(1);
        x.snapshot();
        x.put(1, 5);
        x.snapshot();
        x.delete(1);
        x.flush();
        x.delete(2);
        x.snapshot();
        x.put(2, 6);
        x.delete(3);
        x.snapshot();
        x.delete(3);
        Fill.putRuns(x, 4, 5, 6);
        due.is(1, () -> x.merge(1));
        due.same("-1:4 1:3 2:6 4:9 5:10 6:11", Fill.run(x, 1, 0));
        due.refuses(NOTHING, () -> x.get(0, 1));
        due.is(5, () -> x.get(2, 1));
        due.refuses(NOTHING, () -> x.get(3, 2));
    }

    private void mergeKeepsDeletedOnesAboveOthers() {
        RunKeeper x = new RunKeeper();
        Fill.putRuns(x, 1, 2, 3, 4);
        x.merge(1);
        Fill.deleteRuns(x, 1, 9, 9, 9);
        due.is(1, () -> x.merge(1));
        due.same("-1:5 -9:8", Fill.run(x, 1, 1));
        due.refuses(NOTHING, () -> x.get(-1, 1));
        for (int i = 0; i < 2; i++) {
            Fill.deleteRuns(x, 2, 2, 2, 2);
            x.merge(1);
        }
        due.is(1, () -> x.merge(1));
        due.same("3:3 4:4", Fill.run(x, 2, 0));
        Fill.deleteRuns(x, 3, 3, 3, 3);
        due.is(1, () -> x.merge(1));
        due.same("-3:20", Fill.run(x, 1, 0));
    }

    private void mergeMakesNoRunOfNothing() {
        RunKeeper x = new RunKeeper();
        Fill.deleteRuns(x, 7, 8, 7, 8);
        due.is(1, () -> x.merge(100));
        due.is(0, () -> x.count(0, 0));
        due.is(0, () -> x.count(0, 1));
        due.is(0, () -> x.count(9, 0));
        Fill.deleteRuns(x, 7, 8, 7, 8);
        due.is(1, () -> x.merge(100));
        due.is(0, () -> x.count(0, 1));
    }

    private void mergePutsTheNewRunLast() {
        RunKeeper x = new RunKeeper();
        Fill.putRuns(x, 1, 1, 1, 1);
        x.merge(1);
        Fill.putRuns(x, 1, 1, 1, 2);
        x.merge(1);
        due.same("1:4", Fill.run(x, 1, 0));
        due.same("1:7 2:8", Fill.run(x, 1, 1));
    }

    private void crashKeepsWhatIsSafe() {
        RunKeeper x = new RunKeeper();
        x.put(5, 50);
        x.put(3, 30);
        x.sync();
        x.delete(5);
        x.put(3, 31);
        due.is(2, x::crash);
        due.is(2, () -> x.count(2, 0));
        due.is(50, () -> x.get(-1, 5));
        due.is(30, () -> x.get(-1, 3));
        due.is(2, () -> x.count(4, 0));
        due.is(3, () -> x.put(1, 1));
    }

    private void crashKeepsRuns() {
        RunKeeper x = new RunKeeper();
        Fill.putRuns(x, 1, 2, 3, 4);
        x.merge(1);
        Fill.putRuns(x, 5);
        x.put(6, 6);
        due.is(0, x::crash);
        due.same("1:1 2:2 3:3 4:4", Fill.run(x, 1, 0));
        due.same("5:5", Fill.run(x, 0, 0));
        due.is(5, () -> x.count(4, 0));
        due.refuses(NOTHING, () -> x.get(-1, 6));
        due.is(3, () -> x.get(-1, 3));
    }

    private void crashDropsSnapshotsAndBatch() {
        RunKeeper x = new RunKeeper();
        x.put(1, 1);
        x.sync();
        x.snapshot();
        x.snapshot();
        x.batch();
        x.put(1, 2);
        due.is(1, x::crash);
        due.is(0, () -> x.count(7, 0));
        due.is(-1, () -> x.count(8, 0));
        due.refuses(ARGUMENT, () -> x.get(0, 1));
        due.refuses(ARGUMENT, () -> x.next(1, 1));
        due.refusesTo(ARGUMENT, () -> x.release(0));
        due.refuses(IllegalStateException.class, () -> x.end(true));
        due.is(0, x::snapshot);
        due.isDone(x::batch);
        due.is(0, () -> x.end(true));
        due.is(1, () -> x.get(-1, 1));
    }

    private void crashSetsTheSequenceBack() {
        RunKeeper x = new RunKeeper();
        due.is(0, x::crash);
        due.is(0, () -> x.count(4, 0));
        Fill.putRuns(x, 1, 2);
        Fill.deleteRuns(x, 3, 3);
        x.merge(1);
        due.is(4, () -> x.count(4, 0));
        due.is(0, x::crash);
        due.is(2, () -> x.count(4, 0));
        due.is(0, x::snapshot);
        due.is(3, () -> x.put(2, 9));
        due.is(2, () -> x.get(0, 2));
        due.is(9, () -> x.get(-1, 2));
        due.is(0, x::crash);
        due.is(2, () -> x.get(-1, 2));
    }

    private void crashLeavesTheLogSafe() {
        RunKeeper x = new RunKeeper();
        Fill.putKeys(x, 0, 4);
        x.sync();
        Fill.putKeys(x, 0, 2);
        due.is(4, x::crash);
        due.is(4, () -> x.count(3, 0));
        due.is(4, x::crash);
        Fill.putKeys(x, 0, 1);
        due.is(4, () -> x.count(3, 0));
        due.is(4, x::crash);
        Fill.putKeys(x, 10, 19);
        due.is(23, () -> x.count(2, 0));
        due.is(24, () -> x.put(1, 1));
        due.is(24, () -> x.count(1, 0));
    }
}
