/** The sentences that name no boundary case, in the document's order; the EdgesTests have the others. */
public final class DocumentTest extends Edges {
    public static void main(String[] args) {
        DocumentTest test = new DocumentTest();
        test.run(
                test::runsAreMergedByMergeAlone,
                test::the512thCallAnswersAsDue,
                test::anEntryIsAKeyASequenceAndANumber,
                test::anEntryCanBeDeleted,
                test::theLogHasWhatTheTableHas,
                test::aWriteMakesAnEntryInTheTable,
                test::wordsThatSayOtherwise,
                test::aKeyGetsANumber,
                test::aKeyIsDeleted,
                test::deleteAnswersAndThrowsLikewise,
                test::aBatchBegins,
                test::aBatchIsDone,
                test::aBatchIsGivenUp,
                test::aSnapshotIsGivenBack,
                test::entryKOfRunROfALevel,
                test::countOfLevels,
                test::countOfTableLogAndSequence,
                test::countOfSnapshots,
                test::askingChangesNothing,
                test::objectsAreApart);
    }

    private void runsAreMergedByMergeAlone() {
        due.by("runs of sorted entries on disk in levels that are merged in the background");
        RunKeeper x = new RunKeeper();
        Fill.putRuns(x, 1, 1, 1, 1, 1);
        x.snapshot();
        Fill.putKeys(x, 0, 24);
        x.get(-1, 1);
        x.next(-1, 1);
        x.sync();
        x.release(0);
        Fill.batchOf(x, 0, 2);
        x.end(true);
        x.flush();
        x.crash();
        due.is(7, () -> x.count(0, 0));
        due.is(0, () -> x.count(0, 1));
        due.is(1, () -> x.merge(100));
        due.is(0, () -> x.count(0, 0));
        due.is(1, () -> x.count(0, 1));
    }

    private void the512thCallAnswersAsDue() {
        due.by("An object is used for at most 512 calls after it has been made");
        RunKeeper x = new RunKeeper();
        for (int call = 1; call <= 511; call++) {
            int sequence = call;
            due.is(sequence, () -> x.put(sequence, sequence));
        }
        due.is(511, () -> x.count(9, 0));
        RunKeeper y = Fill.withEntries(511);
        due.is(512, () -> y.delete(0));
        RunKeeper z = Fill.withEntries(511);
        due.is(510, () -> z.get(-1, 510));
    }

    private void anEntryIsAKeyASequenceAndANumber() {
        due.by("An ENTRY: a key, a SEQUENCE number (each write has the next one, 1 first), and a number");
        RunKeeper x = new RunKeeper();
        x.put(40, -7L);
        x.put(30, 1L << 50);
        x.flush();
        hasRuns(x, 0, "30:2 40:1");
        due.is(-7L, () -> x.get(-1, 40));
        due.is(1L << 50, () -> x.get(-1, 30));
    }

    private void anEntryCanBeDeleted() {
        due.by("or that it is DELETED");
        RunKeeper x = new RunKeeper();
        x.put(40, 0L);
        x.delete(30);
        x.flush();
        hasRuns(x, 0, "-30:2 40:1");
        due.is(0L, () -> x.get(-1, 40));
        due.refuses(NOTHING, () -> x.get(-1, 30));
    }

    private void theLogHasWhatTheTableHas() {
        due.by("THE TABLE in memory has ENTRIES; THE LOG on disk has the same");
        RunKeeper x = new RunKeeper();
        for (int step = 0; step < 60; step++) {
            changeOnce(x, step);
            due.is(x.count(2, 0), x::sync);
        }
        RunKeeper y = new RunKeeper();
        y.put(3, 30);
        y.delete(2);
        y.put(3, 31);
        y.sync();
        due.is(3, y::crash);
        y.flush();
        hasRuns(y, 0, "-2:2 3:3 3:1");
    }

    /** Calls of all kinds that change the table: writes, a batch, a flush and a crash. */
    private static void changeOnce(RunKeeper x, int step) {
        if (step % 17 == 16) {
            x.crash();
        } else if (step % 13 == 12) {
            x.flush();
        } else if (step % 7 == 6) {
            Fill.batchOf(x, step, 16);
            x.end(true);
        } else if (step % 2 == 0) {
            x.put(step, step);
        } else {
            x.delete(step);
        }
    }

    private void aWriteMakesAnEntryInTheTable() {
        due.by("A write makes an ENTRY in THE TABLE.");
        RunKeeper x = new RunKeeper();
        x.put(8, 1);
        hasInMemory(x, 1, 0);
        x.put(8, 1);
        hasInMemory(x, 2, 0);
        x.delete(8);
        x.delete(8);
        x.delete(9);
        hasInMemory(x, 5, 0);
        due.is(0, () -> x.count(0, 0));
        x.flush();
        hasRuns(x, 0, "-8:4 -8:3 8:2 8:1 -9:5");
    }

    private void wordsThatSayOtherwise() {
        due.by("if they do not say otherwise");
        RunKeeper x = new RunKeeper();
        // "IllegalArgumentException, first: level, what." is said behind the words that r and k stand in.
        due.refuses(ARGUMENT, () -> x.entry(6, -1, -1, 0));
        due.refuses(ARGUMENT, () -> x.entry(0, 7, 7, 3));
        due.refuses(BOUNDS, () -> x.entry(0, 7, 7, 2));
    }

    private void aKeyGetsANumber() {
        due.by("A key gets a number");
        RunKeeper x = new RunKeeper();
        due.is(1, () -> x.put(6, 60));
        due.is(60, () -> x.get(-1, 6));
        due.is(2, () -> x.put(6, 61));
        due.is(61, () -> x.get(-1, 6));
        due.is(3, () -> x.delete(6));
        due.is(4, () -> x.put(6, 62));
        due.is(62, () -> x.get(-1, 6));
        due.refuses(NOTHING, () -> x.get(-1, 5));
        due.refuses(NOTHING, () -> x.get(-1, 7));
    }

    private void aKeyIsDeleted() {
        due.by("A key is DELETED.");
        RunKeeper x = new RunKeeper();
        x.put(6, 60);
        x.put(7, 70);
        due.is(3, () -> x.delete(6));
        due.refuses(NOTHING, () -> x.get(-1, 6));
        due.is(70, () -> x.get(-1, 7));
        due.is(7, () -> x.next(-1, 0));
    }

    private void deleteAnswersAndThrowsLikewise() {
        due.by("Likewise.");
        RunKeeper x = new RunKeeper();
        Fill.putKeys(x, 0, 23);
        due.is(24, () -> x.delete(0));
        hasInMemory(x, 0, 0);
        due.refuses(ARGUMENT, () -> x.delete(1024));
        x.batch();
        for (int writes = 1; writes <= 16; writes++) {
            due.is(writes, () -> x.delete(5));
        }
        due.refuses(ARGUMENT, () -> x.delete(-1));
        due.refuses(BOUNDS, () -> x.delete(5));
        due.is(16, () -> x.count(8, 0));
    }

    private void aBatchBegins() {
        due.by("A BATCH begins.");
        RunKeeper x = new RunKeeper();
        due.is(-1, () -> x.count(8, 0));
        due.isDone(x::batch);
        due.is(0, () -> x.count(8, 0));
        due.is(1, () -> x.put(1, 1));
        hasInMemory(x, 0, 0);
    }

    private void aBatchIsDone() {
        due.by("It is done");
        RunKeeper x = new RunKeeper();
        Fill.batchOf(x, 4, 3);
        x.delete(5);
        due.is(4, () -> x.end(true));
        hasInMemory(x, 4, 0);
        due.is(-1, () -> x.count(8, 0));
        due.is(4, () -> x.next(-1, 0));
        due.is(6, () -> x.next(-1, 5));
        due.is(5, () -> x.put(5, 5));
    }

    private void aBatchIsGivenUp() {
        due.by("(or given up)");
        RunKeeper x = new RunKeeper();
        Fill.batchOf(x, 4, 3);
        due.is(0, () -> x.end(false));
        hasInMemory(x, 0, 0);
        due.is(-1, () -> x.count(8, 0));
        due.is(-1, () -> x.next(-1, 0));
        x.batch();
        due.is(0, () -> x.count(8, 0));
        due.is(0, () -> x.end(true));
        due.is(1, () -> x.put(5, 5));
    }

    private void aSnapshotIsGivenBack() {
        due.by("A SNAPSHOT is given back.");
        RunKeeper x = new RunKeeper();
        x.put(1, 10);
        x.snapshot();
        x.put(1, 11);
        x.snapshot();
        due.isDone(() -> x.release(0));
        due.is(1, () -> x.count(7, 0));
        due.refuses(ARGUMENT, () -> x.get(0, 1));
        due.is(11, () -> x.get(1, 1));
        x.put(1, 12);
        due.is(0, x::snapshot);
        due.is(12, () -> x.get(0, 1));
    }

    private void entryKOfRunROfALevel() {
        due.by("ENTRY k of RUN r (0 the oldest) of a LEVEL");
        RunKeeper x = new RunKeeper();
        Fill.putRuns(x, 4, 3, 2, 1);
        x.merge(1);
        Fill.putRuns(x, 9, 8);
        due.is(9, () -> x.entry(0, 0, 0, 0));
        due.is(8, () -> x.entry(0, 1, 0, 0));
        for (int k = 0; k < 4; k++) {
            int asked = k;
            due.is(k + 1, () -> x.entry(1, 0, asked, 0));
            due.is(4 - k, () -> x.entry(1, 0, asked, 1));
            due.is(0, () -> x.entry(1, 0, asked, 2));
        }
    }

    private void countOfLevels() {
        due.by("What 0: RUNS, 1: ENTRIES of LEVEL k");
        RunKeeper x = new RunKeeper();
        for (int i = 0; i < 5; i++) {
            Fill.putRuns(x, 4 * i, 4 * i + 1, 4 * i + 2, 4 * i + 3);
            x.merge(100);
        }
        Fill.putKeys(x, 100, 24);
        Fill.putRuns(x, 200);
        x.put(300, 1);
        int[] runs = {2, 1, 1, 0, 0, 0};
        int[] entries = {25, 4, 16, 0, 0, 0};
        for (int level = 0; level <= 5; level++) {
            int k = level;
            due.is(runs[k], () -> x.count(0, k));
            due.is(entries[k], () -> x.count(1, k));
        }
    }

    private void countOfTableLogAndSequence() {
        due.by("2: ENTRIES of THE TABLE; 3: SAFE ones of THE LOG; 4: the SEQUENCE of the latest write");
        RunKeeper x = new RunKeeper();
        Fill.putRuns(x, 1, 2);
        Fill.putKeys(x, 0, 3);
        x.sync();
        Fill.putKeys(x, 0, 2);
        hasInMemory(x, 5, 3);
        due.is(7, () -> x.count(4, 0));
        x.flush();
        hasInMemory(x, 0, 0);
        due.is(7, () -> x.count(4, 0));
    }

    private void countOfSnapshots() {
        due.by("7: SNAPSHOTS");
        RunKeeper x = new RunKeeper();
        for (int taken = 1; taken <= 6; taken++) {
            x.snapshot();
            due.is(taken, () -> x.count(7, 0));
        }
        x.release(5);
        x.release(0);
        due.is(4, () -> x.count(7, 0));
        x.crash();
        due.is(0, () -> x.count(7, 0));
    }

    private static RunKeeper someOfEach() {
        RunKeeper x = Fill.hundreds();
        x.flush();
        Fill.putRuns(x, 1, 1, 1);
        x.merge(1);
        x.snapshot();
        Fill.deleteRuns(x, 1);
        x.put(2, 2);
        x.sync();
        x.put(1, 3);
        Fill.batchOf(x, 0, 2);
        return x;
    }

    private void askingChangesNothing() {
        due.by("Nothing is promised beyond the answers and state changes described above");
        RunKeeper x = someOfEach();
        for (int view = -1; view <= 0; view++) {
            x.next(view, 0);
            x.next(view, 700);
        }
        for (int what = 0; what <= 9; what++) {
            x.count(what, 1);
        }
        for (int what = 0; what <= 2; what++) {
            x.entry(1, 0, 4, what);
        }
        due.same(State.of(someOfEach()), State.of(x));
    }

    private void objectsAreApart() {
        due.by("Nothing is promised beyond the answers and state changes described above");
        RunKeeper x = someOfEach();
        RunKeeper y = new RunKeeper();
        Fill.putRuns(y, 1, 2, 3, 4, 5);
        y.merge(1);
        y.snapshot();
        y.put(1, 99);
        y.crash();
        due.same(State.of(someOfEach()), State.of(x));
        due.is(5, () -> y.count(9, 0));
        due.is(1, () -> y.get(-1, 1));
    }
}
