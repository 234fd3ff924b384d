/** Terms 3 and promise 9: crashes, sentence by sentence. */
public final class CrashEdgesTest extends Edges {
    public static void main(String[] args) {
        CrashEdgesTest test = new CrashEdgesTest();
        test.run(
                test::theRunsStay,
                test::nothingSafeIsNothingInTheTable,
                test::allSafeIsAllInTheTable,
                test::theSafePartIsInTheTable,
                test::theLogIsAllSafeThen,
                test::crashesOfNothing,
                test::snapshotsAreGone,
                test::aFullBatchIsGone,
                test::anEmptyBatchIsGone,
                test::theSequenceGoesOnBehindTheTable,
                test::theSequenceGoesOnBehindTheRuns,
                test::theSequenceGoesOnBehindTheGreatestThatIsStillThere,
                test::theSequenceIs0IfThereIsNone,
                test::theSequenceIs0IfAllIsMergedAway,
                test::theGreatestIsTheLatestWriteThen);
    }

    private void theRunsStay() {
        due.by("A CRASH: the RUNS stay");
        RunKeeper x = new RunKeeper();
        Fill.putRuns(x, 1, 2, 3, 4);
        x.merge(1);
        Fill.deleteRuns(x, 1);
        Fill.putRuns(x, 9);
        x.put(5, 5);
        due.is(0, x::crash);
        hasRuns(x, 0, "-1:5", "9:6");
        hasRuns(x, 1, "1:1 2:2 3:3 4:4");
        due.is(6, () -> x.count(9, 0));
        due.is(4, () -> x.get(-1, 4));
    }

    private void nothingSafeIsNothingInTheTable() {
        due.by("A CRASH: how many ENTRIES THE TABLE has.");
        RunKeeper x = new RunKeeper();
        Fill.putKeys(x, 0, 23);
        due.is(0, x::crash);
        hasInMemory(x, 0, 0);
        due.is(0, () -> x.count(9, 0));
        due.is(-1, () -> x.next(-1, 0));
        due.is(0, x::flush);
    }

    private void allSafeIsAllInTheTable() {
        due.by("A CRASH: how many ENTRIES THE TABLE has.");
        RunKeeper x = new RunKeeper();
        Fill.putKeys(x, 0, 23);
        x.sync();
        due.is(23, x::crash);
        hasInMemory(x, 23, 23);
        due.is(22, () -> x.get(-1, 22));
        due.is(24, () -> x.put(23, 0));
        hasInMemory(x, 0, 0);
        due.is(24, () -> x.count(1, 0));
    }

    private void theSafePartIsInTheTable() {
        due.by("of THE LOG what is SAFE is THE TABLE");
        for (int safe = 0; safe <= 5; safe++) {
            RunKeeper x = new RunKeeper();
            Fill.putRuns(x, 9);
            Fill.putKeys(x, 0, safe);
            x.sync();
            Fill.putKeys(x, safe, 5 - safe);
            int kept = safe;
            due.is(kept, x::crash);
            hasInMemory(x, kept, kept);
            due.is(kept == 0 ? 9 : 0, () -> x.next(-1, 0));
            due.is(9, () -> x.next(-1, kept));
            due.is(1 + kept, () -> x.count(9, 0));
        }
    }

    private void theLogIsAllSafeThen() {
        due.by("and THE LOG, all of it SAFE");
        RunKeeper x = new RunKeeper();
        Fill.putKeys(x, 0, 2);
        x.sync();
        x.put(2, 2);
        due.is(2, x::crash);
        hasInMemory(x, 2, 2);
        due.is(2, x::crash);
        due.is(3, () -> x.put(5, 5));
        hasInMemory(x, 3, 2);
        due.is(2, x::crash);
        due.refuses(NOTHING, () -> x.get(-1, 5));
        due.is(2, x::sync);
        due.is(2, x::flush);
        hasInMemory(x, 0, 0);
        due.is(0, x::crash);
    }

    private void crashesOfNothing() {
        due.by("A CRASH: how many ENTRIES THE TABLE has.");
        RunKeeper x = new RunKeeper();
        due.is(0, x::crash);
        due.is(0, x::crash);
        x.sync();
        due.is(0, x::crash);
        due.is(1, () -> x.put(1, 1));
    }

    private void snapshotsAreGone() {
        due.by("SNAPSHOTS and a BATCH are gone");
        RunKeeper x = new RunKeeper();
        x.put(1, 1);
        x.sync();
        for (int i = 0; i < 6; i++) {
            x.snapshot();
        }
        due.is(1, x::crash);
        due.is(0, () -> x.count(7, 0));
        for (int number = 0; number < 6; number++) {
            int asked = number;
            due.refuses(ARGUMENT, () -> x.get(asked, 1));
            due.refuses(ARGUMENT, () -> x.next(asked, 1));
            due.refusesTo(ARGUMENT, () -> x.release(asked));
        }
        Fill.putRuns(x, 1, 1, 1, 1);
        x.merge(1);
        // A snapshot that were still there would keep the first entry.
        hasRuns(x, 1, "1:5");
        for (int number = 0; number < 6; number++) {
            due.is(number, x::snapshot);
        }
    }

    private void aFullBatchIsGone() {
        due.by("SNAPSHOTS and a BATCH are gone");
        RunKeeper x = new RunKeeper();
        x.put(100, 1);
        x.sync();
        Fill.batchOf(x, 0, 16);
        due.is(1, x::crash);
        due.is(-1, () -> x.count(8, 0));
        due.refuses(STATE, () -> x.end(true));
        due.refuses(STATE, () -> x.end(false));
        due.is(100, () -> x.next(-1, 0));
        due.is(2, () -> x.put(1, 1));
        due.isDone(x::batch);
        due.is(0, () -> x.count(8, 0));
        due.is(0, () -> x.end(true));
        due.is(2, () -> x.count(4, 0));
    }

    private void anEmptyBatchIsGone() {
        due.by("SNAPSHOTS and a BATCH are gone");
        RunKeeper x = new RunKeeper();
        x.batch();
        due.is(0, x::crash);
        due.is(-1, () -> x.count(8, 0));
        due.refuses(STATE, () -> x.end(false));
        due.is(1, () -> x.put(1, 1));
        due.is(1, () -> x.count(2, 0));
    }

    private void theSequenceGoesOnBehindTheTable() {
        due.by("the SEQUENCE goes on behind the greatest one that is there");
        RunKeeper x = new RunKeeper();
        Fill.putRuns(x, 1, 2);
        Fill.putKeys(x, 0, 3);
        x.sync();
        Fill.putKeys(x, 0, 4);
        due.is(9, () -> x.count(4, 0));
        x.crash();
        due.is(5, () -> x.count(4, 0));
        due.is(6, () -> x.put(0, 1));
        x.flush();
        hasRuns(x, 0, "1:1", "2:2", "0:6 0:3 1:4 2:5");
    }

    private void theSequenceGoesOnBehindTheRuns() {
        due.by("the SEQUENCE goes on behind the greatest one that is there");
        RunKeeper x = new RunKeeper();
        x.put(1023, 1);
        x.put(0, 1);
        x.flush();
        x.put(5, 5);
        x.crash();
        // The greatest one stands first in its run, not last.
        due.is(2, () -> x.count(4, 0));
        due.is(3, () -> x.delete(5));
        x.flush();
        Fill.putRuns(x, 6, 5);
        x.merge(1);
        Fill.putKeys(x, 0, 2);
        x.crash();
        due.is(5, () -> x.count(4, 0));
        due.is(6, () -> x.put(1, 1));
    }

    private void theSequenceGoesOnBehindTheGreatestThatIsStillThere() {
        due.by("the SEQUENCE goes on behind the greatest one that is there");
        RunKeeper x = new RunKeeper();
        Fill.putRuns(x, 1, 2);
        Fill.deleteRuns(x, 2, 3);
        x.merge(1);
        due.is(4, () -> x.count(4, 0));
        x.crash();
        due.is(1, () -> x.count(4, 0));
        due.is(2, () -> x.put(4, 4));
    }

    private void theSequenceIs0IfThereIsNone() {
        due.by("(0 if there is none");
        RunKeeper x = new RunKeeper();
        x.crash();
        due.is(0, () -> x.count(4, 0));
        Fill.putKeys(x, 0, 10);
        x.crash();
        due.is(0, () -> x.count(4, 0));
        due.is(0, x::snapshot);
        due.is(1, () -> x.put(3, 3));
        due.refuses(NOTHING, () -> x.get(0, 3));
    }

    private void theSequenceIs0IfAllIsMergedAway() {
        due.by("(0 if there is none");
        RunKeeper x = new RunKeeper();
        Fill.putRuns(x, 1, 2);
        Fill.deleteRuns(x, 1, 2);
        x.merge(1);
        due.is(4, () -> x.count(4, 0));
        due.is(0, x::crash);
        due.is(0, () -> x.count(4, 0));
        due.is(1, () -> x.delete(1));
    }

    private void theGreatestIsTheLatestWriteThen() {
        due.by("this greatest one is that of the latest write then)");
        RunKeeper x = new RunKeeper();
        x.put(1, 10);
        x.put(1, 11);
        x.sync();
        x.put(1, 12);
        x.put(1, 13);
        x.crash();
        due.is(2, () -> x.count(4, 0));
        due.is(11, () -> x.get(-1, 1));
        due.is(0, x::snapshot);
        due.is(3, () -> x.put(1, 14));
        due.is(11, () -> x.get(0, 1));
        due.is(4, () -> x.put(1, 15));
        // A snapshot of 4, the latest write before the crash, would see this one.
        due.is(11, () -> x.get(0, 1));
        due.is(15, () -> x.get(-1, 1));
    }
}
