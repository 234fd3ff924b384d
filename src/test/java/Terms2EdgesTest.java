/** Terms 2 without merging: writes, flushing, batches and snapshots, sentence by sentence. */
public final class Terms2EdgesTest extends Edges {
    public static void main(String[] args) {
        Terms2EdgesTest test = new Terms2EdgesTest();
        test.run(
                test::theTableIsFlushedWith24,
                test::theTableIsFlushedWith24OfOneKey,
                test::theTableIsFlushedWith24BehindACrash,
                test::theTableIsCountedFromTheLatestFlush,
                test::theTableAndTheLogAreEmptyThen,
                test::safeThenAreAllOfThem,
                test::aBatchHas16AtMost,
                test::everyBatchHas16AtMost,
                test::noOtherCallSeesABatch,
                test::syncDoesAsWithoutABatch,
                test::flushDoesAsWithoutABatch,
                test::mergeDoesAsWithoutABatch,
                test::snapshotDoesAsWithoutABatch,
                test::getAndNextDoAsWithoutABatch,
                test::writesOfABatchAreDoneOneAfterTheOther,
                test::flushedIsLookedAtBehindAllOfABatch,
                test::aBatchUpTo24Flushes,
                test::aSnapshotIsOfTheLatestWrite,
                test::aSnapshotBeforeAnyWriteIsOf0);
    }

    private void theTableIsFlushedWith24() {
        due.by("Has THE TABLE 24 then it is FLUSHED");
        for (int i = 0; i < 2; i++) {
            boolean byPut = i == 0;
            RunKeeper x = new RunKeeper();
            Fill.putKeys(x, 0, 22);
            hasInMemory(x, 22, 0);
            due.is(23, () -> byPut ? x.put(22, 0) : x.delete(22));
            hasInMemory(x, 23, 0);
            hasRuns(x, 0);
            due.is(24, () -> byPut ? x.put(23, 0) : x.delete(23));
            hasInMemory(x, 0, 0);
            due.is(1, () -> x.count(0, 0));
            due.is(24, () -> x.count(1, 0));
            due.is(25, () -> x.put(24, 0));
            hasInMemory(x, 1, 0);
            due.is(1, () -> x.count(0, 0));
        }
    }

    private void theTableIsFlushedWith24OfOneKey() {
        due.by("Has THE TABLE 24 then it is FLUSHED");
        RunKeeper x = new RunKeeper();
        for (int i = 0; i < 23; i++) {
            x.put(5, i);
        }
        hasInMemory(x, 23, 0);
        x.delete(5);
        hasInMemory(x, 0, 0);
        due.is(24, () -> x.count(1, 0));
        due.is(24, () -> x.entry(0, 0, 0, 1));
        due.is(1, () -> x.entry(0, 0, 23, 1));
    }

    private void theTableIsFlushedWith24BehindACrash() {
        due.by("Has THE TABLE 24 then it is FLUSHED");
        RunKeeper x = new RunKeeper();
        Fill.putKeys(x, 0, 22);
        x.sync();
        x.put(100, 1);
        due.is(22, x::crash);
        x.put(101, 1);
        hasInMemory(x, 23, 22);
        x.put(102, 1);
        hasInMemory(x, 0, 0);
        due.is(24, () -> x.count(1, 0));
    }

    private void theTableIsCountedFromTheLatestFlush() {
        due.by("Has THE TABLE 24 then it is FLUSHED");
        RunKeeper x = new RunKeeper();
        Fill.putKeys(x, 0, 23);
        x.flush();
        Fill.putKeys(x, 0, 23);
        hasInMemory(x, 23, 0);
        due.is(1, () -> x.count(0, 0));
        x.put(23, 0);
        hasInMemory(x, 0, 0);
        due.is(2, () -> x.count(0, 0));
        due.is(47, () -> x.count(1, 0));
    }

    private void theTableAndTheLogAreEmptyThen() {
        due.by("its ENTRIES are a RUN of LEVEL 0, THE TABLE and THE LOG are empty");
        RunKeeper x = new RunKeeper();
        Fill.putKeys(x, 0, 20);
        x.sync();
        Fill.putKeys(x, 20, 4);
        hasInMemory(x, 0, 0);
        due.is(0, x::sync);
        due.is(0, x::flush);
        due.is(0, x::crash);
        due.is(24, () -> x.count(9, 0));
        due.is(24, () -> x.count(1, 0));
    }

    private void safeThenAreAllOfThem() {
        due.by("(SAFE then are all of them.)");
        RunKeeper x = new RunKeeper();
        Fill.putKeys(x, 0, 24);
        due.is(0, x::crash);
        due.is(24, () -> x.count(9, 0));
        due.is(24, () -> x.count(4, 0));
        due.is(23, () -> x.get(-1, 23));
        RunKeeper y = new RunKeeper();
        Fill.putKeys(y, 0, 10);
        y.sync();
        Fill.putKeys(y, 10, 5);
        y.flush();
        due.is(0, y::crash);
        due.is(15, () -> y.count(9, 0));
        due.is(14, () -> y.get(-1, 14));
    }

    private void aBatchHas16AtMost() {
        due.by("In a BATCH writes are kept aside (16 at most");
        RunKeeper x = new RunKeeper();
        Fill.batchOf(x, 0, 14);
        due.is(15, () -> x.delete(14));
        due.is(16, () -> x.put(15, 1));
        due.refuses(BOUNDS, () -> x.put(16, 1));
        due.refuses(BOUNDS, () -> x.delete(0));
        due.is(16, () -> x.count(8, 0));
        due.is(16, () -> x.end(true));
        due.is(16, () -> x.count(2, 0));
        due.refuses(NOTHING, () -> x.get(-1, 16));
        due.is(0, () -> x.get(-1, 0));
    }

    private void everyBatchHas16AtMost() {
        due.by("In a BATCH writes are kept aside (16 at most");
        RunKeeper x = new RunKeeper();
        for (int ended = 0; ended < 3; ended++) {
            Fill.batchOf(x, 0, 15);
            due.is(16, () -> x.put(1, 1));
            due.refuses(BOUNDS, () -> x.put(1, 1));
            switch (ended) {
                case 0 -> x.end(false);
                case 1 -> x.crash();
                default -> x.end(true);
            }
        }
        due.is(17, () -> x.put(1, 1));
    }

    private static RunKeeper withOpenBatch() {
        RunKeeper x = new RunKeeper();
        x.put(1, 10);
        x.put(2, 20);
        x.batch();
        x.put(1, 11);
        x.delete(2);
        x.put(3, 30);
        return x;
    }

    private void isStillOpen(RunKeeper x) {
        due.is(3, () -> x.count(8, 0));
        due.is(3, () -> x.end(true));
        due.is(11, () -> x.get(-1, 1));
        due.refuses(NOTHING, () -> x.get(-1, 2));
        due.is(30, () -> x.get(-1, 3));
        due.is(5, () -> x.count(4, 0));
    }

    private void noOtherCallSeesABatch() {
        due.by("until it is done no other call sees them");
        RunKeeper x = withOpenBatch();
        due.is(10, () -> x.get(-1, 1));
        due.is(20, () -> x.get(-1, 2));
        due.refuses(NOTHING, () -> x.get(-1, 3));
        due.is(-1, () -> x.next(-1, 3));
        due.is(2, () -> x.next(-1, 2));
        hasInMemory(x, 2, 0);
        due.is(2, () -> x.count(4, 0));
        due.is(2, () -> x.count(9, 0));
        due.is(2, x::sync);
        hasInMemory(x, 2, 2);
        due.is(2, x::crash);
        due.is(10, () -> x.get(-1, 1));
        due.is(3, () -> x.put(3, 3));
    }

    private void syncDoesAsWithoutABatch() {
        due.by("sync, flush, merge, snapshot, get and next do as without one, and it stays");
        RunKeeper x = withOpenBatch();
        due.is(2, x::sync);
        due.is(2, () -> x.count(3, 0));
        isStillOpen(x);
        hasInMemory(x, 5, 2);
        due.is(2, x::crash);
        due.is(10, () -> x.get(-1, 1));
    }

    private void flushDoesAsWithoutABatch() {
        due.by("sync, flush, merge, snapshot, get and next do as without one, and it stays");
        RunKeeper x = withOpenBatch();
        due.is(2, x::flush);
        hasRuns(x, 0, "1:1 2:2");
        due.is(0, x::flush);
        isStillOpen(x);
        hasInMemory(x, 3, 0);
        hasRuns(x, 0, "1:1 2:2");
    }

    private void mergeDoesAsWithoutABatch() {
        due.by("sync, flush, merge, snapshot, get and next do as without one, and it stays");
        RunKeeper x = new RunKeeper();
        Fill.putRuns(x, 1, 1, 2, 2);
        x.batch();
        x.delete(2);
        due.is(0, () -> x.merge(0));
        due.is(1, () -> x.merge(9));
        hasRuns(x, 0);
        hasRuns(x, 1, "1:2 2:4");
        due.is(1, () -> x.count(8, 0));
        due.is(1, () -> x.end(true));
        due.refuses(NOTHING, () -> x.get(-1, 2));
    }

    private void snapshotDoesAsWithoutABatch() {
        due.by("sync, flush, merge, snapshot, get and next do as without one, and it stays");
        RunKeeper x = withOpenBatch();
        due.is(0, x::snapshot);
        due.is(1, () -> x.count(7, 0));
        isStillOpen(x);
        due.is(10, () -> x.get(0, 1));
        due.is(20, () -> x.get(0, 2));
        due.refuses(NOTHING, () -> x.get(0, 3));
        due.isDone(() -> x.release(0));
    }

    private void getAndNextDoAsWithoutABatch() {
        due.by("sync, flush, merge, snapshot, get and next do as without one, and it stays");
        RunKeeper x = withOpenBatch();
        due.is(20, () -> x.get(-1, 2));
        due.refuses(NOTHING, () -> x.get(-1, 0));
        due.is(1, () -> x.next(-1, 0));
        due.is(2, () -> x.next(-1, 2));
        due.is(-1, () -> x.next(-1, 3));
        isStillOpen(x);
        due.is(3, () -> x.next(-1, 2));
    }

    private void writesOfABatchAreDoneOneAfterTheOther() {
        due.by("when it is committed they are done one after the other");
        RunKeeper x = new RunKeeper();
        x.put(9, 1);
        x.batch();
        x.put(9, 2);
        x.delete(9);
        x.put(4, 3);
        x.put(9, 4);
        x.delete(4);
        due.is(5, () -> x.end(true));
        due.is(4, () -> x.get(-1, 9));
        due.refuses(NOTHING, () -> x.get(-1, 4));
        x.flush();
        hasRuns(x, 0, "-4:6 4:4 9:5 -9:3 9:2 9:1");
    }

    private void flushedIsLookedAtBehindAllOfABatch() {
        due.by("but FLUSHED is looked at behind all of them");
        RunKeeper x = new RunKeeper();
        Fill.putKeys(x, 0, 23);
        Fill.batchOf(x, 100, 16);
        hasInMemory(x, 23, 0);
        hasRuns(x, 0);
        due.is(16, () -> x.end(true));
        hasInMemory(x, 0, 0);
        due.is(1, () -> x.count(0, 0));
        due.is(39, () -> x.count(1, 0));
        due.is(39, () -> x.entry(0, 0, 38, 1));
        due.refuses(BOUNDS, () -> x.entry(0, 0, 39, 1));
        due.is(0, x::crash);
        due.is(39, () -> x.count(4, 0));
    }

    private void aBatchUpTo24Flushes() {
        due.by("but FLUSHED is looked at behind all of them");
        for (int size = 0; size <= 16; size++) {
            RunKeeper x = new RunKeeper();
            Fill.putKeys(x, 0, 14);
            Fill.batchOf(x, 100, size);
            int writes = size;
            due.is(writes, () -> x.end(true));
            boolean flushed = 14 + size >= 24;
            hasInMemory(x, flushed ? 0 : 14 + size, 0);
            due.is(flushed ? 14 + size : 0, () -> x.count(1, 0));
        }
    }

    private void aSnapshotIsOfTheLatestWrite() {
        due.by("A SNAPSHOT is of the SEQUENCE of the latest write (0 before any).");
        RunKeeper x = new RunKeeper();
        x.put(1, 10);
        x.snapshot();
        x.put(2, 20);
        x.delete(1);
        x.snapshot();
        x.put(1, 11);
        due.is(10, () -> x.get(0, 1));
        due.refuses(NOTHING, () -> x.get(0, 2));
        due.refuses(NOTHING, () -> x.get(1, 1));
        due.is(20, () -> x.get(1, 2));
        due.is(2, () -> x.next(1, 0));
        due.is(1, () -> x.next(-1, 0));
        x.release(0);
        x.snapshot();
        due.is(11, () -> x.get(0, 1));
    }

    private void aSnapshotBeforeAnyWriteIsOf0() {
        due.by("A SNAPSHOT is of the SEQUENCE of the latest write (0 before any).");
        RunKeeper x = new RunKeeper();
        due.is(0, x::snapshot);
        due.refuses(NOTHING, () -> x.get(0, 1));
        x.put(1, 1);
        due.refuses(NOTHING, () -> x.get(0, 1));
        due.is(-1, () -> x.next(0, 0));
        x.flush();
        Fill.putRuns(x, 1, 1, 1);
        x.merge(1);
        // A snapshot of 1 would keep the first entry.
        hasRuns(x, 1, "1:4");
        due.refuses(NOTHING, () -> x.get(0, 1));
    }
}
