/** Promises 1 to 7 and 10 to 15, call by call, sentence by sentence where one names a boundary. */
public final class CallsEdgesTest extends Edges {
    public static void main(String[] args) {
        CallsEdgesTest test = new CallsEdgesTest();
        test.run(
                test::aNewObjectHasNothing,
                test::writesRefuseKeys,
                test::writesRefuseTheSeventeenthOfABatch,
                test::writesRefuseThe601stEntry,
                test::entriesInAllAreThoseThatAreThere,
                test::writesAnswerTheirSequenceWhenTheyFlush,
                test::writesInABatchAnswerHowMany,
                test::batchRefusesASecondOne,
                test::endAnswersHowManyWereDone,
                test::givenUpAnswers0,
                test::endRefusesWithoutABatch,
                test::endRefusesMoreThan600,
                test::aBatchOf600Stays,
                test::aBatchDoesNotRefuseFor600,
                test::syncAnswersHowManyTheLogHas,
                test::flushAnswersHowManyTheTableHad,
                test::nothingIsSafeBehindAFlush,
                test::snapshotAnswersTheLeastFreeNumber,
                test::snapshotRefusesASeventhOne,
                test::releaseRefusesNone,
                test::getIsNowOrAsOfASnapshot,
                test::getRefusesKeysAndSnapshots,
                test::getOfNothing,
                test::nextIsFromOneOn,
                test::nextIsMinus1IfThereIsNone,
                test::nextRefusesLikewise,
                test::entryRefusesLevelAndWhat,
                test::entryRefusesWhatIsNotThere,
                test::entryTellsDeleted,
                test::countOfTheBatchIsMinus1IfNone,
                test::countInAllIsOfTableAndRuns,
                test::countRefusesOthers,
                test::countRefusesLevelsForRunsAndEntriesAlone);
    }

    private void aNewObjectHasNothing() {
        due.by("Nothing in it.");
        for (int what = 0; what <= 9; what++) {
            int asked = what;
            due.is(what == 8 ? -1 : 0, () -> new RunKeeper().count(asked, 0));
        }
        for (int level = 0; level <= 5; level++) {
            int asked = level;
            due.is(0, () -> new RunKeeper().count(0, asked));
            due.is(0, () -> new RunKeeper().count(1, asked));
            due.refuses(BOUNDS, () -> new RunKeeper().entry(asked, 0, 0, 0));
        }
        for (int number = 0; number <= 5; number++) {
            int asked = number;
            due.refusesTo(ARGUMENT, () -> new RunKeeper().release(asked));
            due.refuses(ARGUMENT, () -> new RunKeeper().get(asked, 0));
            due.refuses(ARGUMENT, () -> new RunKeeper().next(asked, 0));
        }
        for (int key = 0; key <= 1023; key++) {
            int asked = key;
            due.refuses(NOTHING, () -> new RunKeeper().get(-1, asked));
            due.is(-1, () -> new RunKeeper().next(-1, asked));
        }
        due.is(0, () -> new RunKeeper().sync());
        due.is(0, () -> new RunKeeper().flush());
        due.is(0, () -> new RunKeeper().merge(100));
        due.is(0, () -> new RunKeeper().crash());
        due.refuses(STATE, () -> new RunKeeper().end(true));
    }

    private void writesRefuseKeys() {
        due.by("IllegalArgumentException: key.");
        RunKeeper x = new RunKeeper();
        for (int key : Fill.outside(0, 1023)) {
            for (long v : new long[] {Long.MIN_VALUE, 0, Long.MAX_VALUE}) {
                due.refuses(ARGUMENT, () -> x.put(key, v));
            }
            due.refuses(ARGUMENT, () -> x.delete(key));
        }
        x.batch();
        for (int key : Fill.outside(0, 1023)) {
            due.refuses(ARGUMENT, () -> x.put(key, 0));
            due.refuses(ARGUMENT, () -> x.delete(key));
        }
        due.is(0, () -> x.end(true));
        due.is(1, () -> x.put(0, Long.MIN_VALUE));
        due.is(2, () -> x.put(1023, Long.MAX_VALUE));
        due.is(Long.MIN_VALUE, () -> x.get(-1, 0));
        due.is(Long.MAX_VALUE, () -> x.get(-1, 1023));
    }

    private void writesRefuseTheSeventeenthOfABatch() {
        due.by("IndexOutOfBoundsException: the BATCH has 16");
        RunKeeper x = new RunKeeper();
        x.batch();
        for (int i = 1; i <= 16; i++) {
            int writes = i;
            due.is(writes, () -> writes % 2 == 0 ? x.delete(writes) : x.put(writes, 1));
        }
        due.refuses(BOUNDS, () -> x.put(1, 1));
        due.refuses(BOUNDS, () -> x.delete(1));
        due.is(16, () -> x.count(8, 0));
        due.is(16, () -> x.end(true));
        due.is(17, () -> x.put(1, 1));
        due.is(18, () -> x.delete(1));
    }

    // 600 entries lie behind the 512 calls that the document speaks of; the words are kept there, too.
    private void writesRefuseThe601stEntry() {
        due.by("or (without one) there are 600 ENTRIES in all");
        RunKeeper x = Fill.withEntries(598);
        due.is(599, () -> x.delete(5));
        due.is(600, () -> x.put(5, 1));
        due.is(600, () -> x.count(9, 0));
        due.refuses(BOUNDS, () -> x.put(5, 1));
        due.refuses(BOUNDS, () -> x.delete(5));
        x.flush();
        due.refuses(BOUNDS, () -> x.put(6, 1));
        due.is(600, () -> x.count(4, 0));
    }

    private void entriesInAllAreThoseThatAreThere() {
        due.by("or (without one) there are 600 ENTRIES in all");
        RunKeeper x = Fill.withEntries(590);
        for (int i = 0; i < 10; i++) {
            x.put(3, i);
        }
        due.refuses(BOUNDS, () -> x.put(3, 1));
        // Merging leaves entries out, or a crash does: then there is room again.
        x.flush();
        due.is(1, () -> x.merge(1));
        due.is(590, () -> x.count(9, 0));
        due.is(601, () -> x.put(3, 1));
        RunKeeper y = Fill.withEntries(600);
        due.is(0, () -> y.count(2, 0));
        RunKeeper z = Fill.withEntries(599);
        int inTable = z.count(2, 0);
        due.is(0, z::crash);
        due.is(599 - inTable, () -> z.count(9, 0));
        due.is(600 - inTable, () -> z.put(3, 1));
    }

    private void writesAnswerTheirSequenceWhenTheyFlush() {
        due.by("its SEQUENCE, also if THE TABLE is FLUSHED by it");
        for (int i = 0; i < 2; i++) {
            boolean byPut = i == 0;
            RunKeeper x = new RunKeeper();
            Fill.putKeys(x, 0, 23);
            due.is(24, () -> byPut ? x.put(1, 1) : x.delete(1));
            due.is(0, () -> x.count(2, 0));
            Fill.putKeys(x, 0, 23);
            due.is(48, () -> byPut ? x.put(1, 1) : x.delete(1));
            due.is(49, () -> byPut ? x.put(1, 1) : x.delete(1));
            due.is(2, () -> x.count(0, 0));
        }
    }

    private void writesInABatchAnswerHowMany() {
        due.by("(in a BATCH: how many writes that has)");
        RunKeeper x = new RunKeeper();
        Fill.putKeys(x, 0, 23);
        x.batch();
        due.is(1, () -> x.delete(1));
        due.is(2, () -> x.put(1, 1));
        due.is(3, () -> x.put(1, 1));
        due.is(23, () -> x.count(2, 0));
        x.end(true);
        x.batch();
        due.is(1, () -> x.put(1, 1));
        due.is(2, () -> x.delete(1));
    }

    private void batchRefusesASecondOne() {
        due.by("IllegalStateException: one is begun.");
        RunKeeper x = new RunKeeper();
        due.isDone(x::batch);
        due.refusesTo(STATE, x::batch);
        due.is(0, () -> x.count(8, 0));
        Fill.putKeys(x, 0, 16);
        due.refusesTo(STATE, x::batch);
        due.is(16, () -> x.count(8, 0));
        x.end(true);
        due.isDone(x::batch);
        x.end(false);
        due.isDone(x::batch);
        x.crash();
        due.isDone(x::batch);
        due.refusesTo(STATE, x::batch);
    }

    private void endAnswersHowManyWereDone() {
        due.by("how many writes were done");
        for (int size = 0; size <= 16; size++) {
            RunKeeper x = new RunKeeper();
            Fill.putKeys(x, 0, 2);
            Fill.batchOf(x, 0, size);
            int writes = size;
            due.is(writes, () -> x.end(true));
            due.is(2 + writes, () -> x.count(2, 0));
            due.is(2 + writes, () -> x.count(4, 0));
            due.is(-1, () -> x.count(8, 0));
        }
    }

    private void givenUpAnswers0() {
        due.by("(given up: 0)");
        for (int size = 0; size <= 16; size++) {
            RunKeeper x = new RunKeeper();
            Fill.batchOf(x, 0, size);
            due.is(0, () -> x.end(false));
            due.is(0, () -> x.count(9, 0));
            due.is(-1, () -> x.count(8, 0));
            due.is(-1, () -> x.next(-1, 0));
            due.is(1, () -> x.put(1, 1));
            x.batch();
            due.is(0, () -> x.end(true));
        }
    }

    private void endRefusesWithoutABatch() {
        due.by("IllegalStateException: none is begun.");
        RunKeeper x = new RunKeeper();
        due.refuses(STATE, () -> x.end(true));
        due.refuses(STATE, () -> x.end(false));
        for (int i = 0; i < 2; i++) {
            boolean commit = i == 0;
            x.batch();
            x.end(commit);
            due.refuses(STATE, () -> x.end(true));
            due.refuses(STATE, () -> x.end(false));
        }
        due.is(0, () -> x.count(4, 0));
    }

    private void endRefusesMoreThan600() {
        due.by("IndexOutOfBoundsException: there would be more than 600 ENTRIES");
        for (int size = 9; size <= 12; size++) {
            RunKeeper x = Fill.withEntries(590);
            Fill.batchOf(x, 0, size);
            if (size <= 10) {
                due.is(size, () -> x.end(true));
                due.is(590 + size, () -> x.count(9, 0));
            } else {
                due.refuses(BOUNDS, () -> x.end(true));
                due.is(590, () -> x.count(9, 0));
                due.is(590, () -> x.count(4, 0));
            }
        }
        RunKeeper y = Fill.withEntries(600);
        y.batch();
        due.is(0, () -> y.end(true));
    }

    private void aBatchOf600Stays() {
        due.by("(it stays");
        RunKeeper x = Fill.withEntries(595);
        Fill.batchOf(x, 1000, 6);
        due.refuses(BOUNDS, () -> x.end(true));
        due.refuses(BOUNDS, () -> x.end(true));
        due.is(6, () -> x.count(8, 0));
        due.is(7, () -> x.put(1, 1));
        due.refusesTo(STATE, x::batch);
        due.is(-1, () -> x.next(-1, 1000));
        due.is(0, () -> x.end(false));
        due.is(-1, () -> x.count(8, 0));
        due.is(596, () -> x.put(1, 1));
    }

    private void aBatchDoesNotRefuseFor600() {
        due.by("writes are not refused in it for that)");
        RunKeeper x = Fill.withEntries(600);
        x.batch();
        for (int i = 1; i <= 16; i++) {
            int writes = i;
            due.is(writes, () -> writes % 2 == 0 ? x.delete(1) : x.put(1, 1));
        }
        due.refuses(BOUNDS, () -> x.put(1, 1));
        due.refuses(BOUNDS, () -> x.end(true));
        due.is(0, () -> x.end(false));
    }

    private void syncAnswersHowManyTheLogHas() {
        due.by("THE LOG is SAFE: how many ENTRIES it has.");
        RunKeeper x = new RunKeeper();
        due.is(0, x::sync);
        for (int i = 1; i <= 23; i++) {
            x.put(5, i);
            due.is(i, x::sync);
            due.is(x.count(2, 0), () -> x.count(3, 0));
        }
        due.is(23, x::sync);
        x.put(5, 24);
        due.is(0, x::sync);
        Fill.putKeys(x, 0, 3);
        x.flush();
        due.is(0, x::sync);
        Fill.batchOf(x, 0, 4);
        due.is(0, x::sync);
        x.end(true);
        due.is(0, () -> x.count(3, 0));
        due.is(4, x::sync);
    }

    private void flushAnswersHowManyTheTableHad() {
        due.by("THE TABLE is FLUSHED, if it has ENTRIES: how many it had (0 if none).");
        RunKeeper x = new RunKeeper();
        due.is(0, x::flush);
        hasRuns(x, 0);
        x.put(1, 1);
        due.is(1, x::flush);
        due.is(0, x::flush);
        hasRuns(x, 0, "1:1");
        Fill.putKeys(x, 0, 23);
        due.is(23, x::flush);
        due.is(2, () -> x.count(0, 0));
        due.is(24, () -> x.count(1, 0));
        Fill.putKeys(x, 0, 24);
        due.is(0, x::flush);
        due.is(3, () -> x.count(0, 0));
    }

    private void nothingIsSafeBehindAFlush() {
        due.by("Nothing of THE LOG is SAFE then, as it is empty.");
        RunKeeper x = new RunKeeper();
        Fill.putKeys(x, 0, 5);
        x.sync();
        due.is(5, () -> x.count(3, 0));
        due.is(5, x::flush);
        due.is(0, () -> x.count(3, 0));
        Fill.putKeys(x, 0, 7);
        due.is(0, () -> x.count(3, 0));
        due.is(0, x::crash);
        due.is(5, () -> x.count(9, 0));
    }

    private void snapshotAnswersTheLeastFreeNumber() {
        due.by("A SNAPSHOT: its number, the least that is free.");
        for (int first = 0; first < 6; first++) {
            for (int second = 0; second < first; second++) {
                RunKeeper x = new RunKeeper();
                for (int number = 0; number < 6; number++) {
                    due.is(number, x::snapshot);
                }
                x.release(first);
                x.release(second);
                due.is(second, x::snapshot);
                due.is(first, x::snapshot);
                due.is(6, () -> x.count(7, 0));
            }
        }
    }

    private void snapshotRefusesASeventhOne() {
        due.by("IndexOutOfBoundsException: there are 6.");
        RunKeeper x = new RunKeeper();
        for (int number = 0; number < 6; number++) {
            due.is(number, () -> x.count(7, 0));
            x.snapshot();
        }
        due.refuses(BOUNDS, x::snapshot);
        due.is(6, () -> x.count(7, 0));
        x.release(5);
        due.is(5, x::snapshot);
        due.refuses(BOUNDS, x::snapshot);
        x.crash();
        due.is(0, x::snapshot);
    }

    private void releaseRefusesNone() {
        due.by("A SNAPSHOT is given back. IllegalArgumentException: there is none.");
        RunKeeper x = new RunKeeper();
        due.refusesTo(ARGUMENT, () -> x.release(0));
        for (int number = 0; number < 6; number++) {
            x.snapshot();
        }
        for (int number : Fill.outside(0, 5)) {
            due.refusesTo(ARGUMENT, () -> x.release(number));
        }
        due.is(6, () -> x.count(7, 0));
        for (int number = 0; number < 6; number++) {
            int asked = number;
            due.isDone(() -> x.release(asked));
            due.refusesTo(ARGUMENT, () -> x.release(asked));
            due.refuses(ARGUMENT, () -> x.next(asked, 0));
            due.is(5 - asked, () -> x.count(7, 0));
        }
    }

    private void getIsNowOrAsOfASnapshot() {
        due.by("What a key has, now (-1) or as of a SNAPSHOT.");
        RunKeeper x = new RunKeeper();
        for (int number = 0; number < 6; number++) {
            x.put(1, number);
            x.snapshot();
        }
        x.put(1, 6);
        for (int number = 0; number < 6; number++) {
            int asked = number;
            due.is(number, () -> x.get(asked, 1));
        }
        due.is(6, () -> x.get(-1, 1));
    }

    private void getRefusesKeysAndSnapshots() {
        due.by("IllegalArgumentException: key, or there is no SNAPSHOT.");
        RunKeeper x = new RunKeeper();
        x.put(0, 1);
        x.put(1023, 2);
        x.snapshot();
        x.snapshot();
        x.release(0);
        for (int key : Fill.outside(0, 1023)) {
            due.refuses(ARGUMENT, () -> x.get(-1, key));
            due.refuses(ARGUMENT, () -> x.get(1, key));
        }
        for (int number : Fill.outside(-1, 5)) {
            due.refuses(ARGUMENT, () -> x.get(number, 0));
            due.refuses(ARGUMENT, () -> x.get(number, 1023));
        }
        for (int number : new int[] {0, 2, 3, 4, 5}) {
            due.refuses(ARGUMENT, () -> x.get(number, 0));
        }
        due.is(1, () -> x.get(1, 0));
        due.is(2, () -> x.get(-1, 1023));
    }

    private void getOfNothing() {
        due.by("UnsupportedOperationException: nothing.");
        RunKeeper x = new RunKeeper();
        due.refuses(NOTHING, () -> x.get(-1, 0));
        x.snapshot();
        x.put(5, 0);
        due.is(0, () -> x.get(-1, 5));
        due.refuses(NOTHING, () -> x.get(0, 5));
        due.refuses(NOTHING, () -> x.get(-1, 4));
        due.refuses(NOTHING, () -> x.get(-1, 6));
        x.delete(5);
        due.refuses(NOTHING, () -> x.get(-1, 5));
        x.flush();
        due.refuses(NOTHING, () -> x.get(-1, 5));
        due.refuses(NOTHING, () -> x.get(0, 5));
        x.delete(1023);
        due.refuses(NOTHING, () -> x.get(-1, 1023));
    }

    private void nextIsFromOneOn() {
        due.by("The least key from one on (that one, too) that has something");
        RunKeeper x = new RunKeeper();
        Fill.putRuns(x, 1023, 5, 0);
        x.put(6, 1);
        due.is(0, () -> x.next(-1, 0));
        due.is(5, () -> x.next(-1, 1));
        due.is(5, () -> x.next(-1, 5));
        due.is(6, () -> x.next(-1, 6));
        due.is(1023, () -> x.next(-1, 7));
        due.is(1023, () -> x.next(-1, 1022));
        due.is(1023, () -> x.next(-1, 1023));
        x.delete(5);
        due.is(6, () -> x.next(-1, 5));
        x.snapshot();
        x.delete(6);
        due.is(6, () -> x.next(0, 5));
        due.is(1023, () -> x.next(-1, 5));
    }

    private void nextIsMinus1IfThereIsNone() {
        due.by("-1 if there is none");
        RunKeeper x = new RunKeeper();
        due.is(-1, () -> x.next(-1, 0));
        due.is(-1, () -> x.next(-1, 1023));
        x.snapshot();
        x.put(1022, 1);
        due.is(-1, () -> x.next(-1, 1023));
        due.is(-1, () -> x.next(0, 0));
        x.flush();
        due.is(-1, () -> x.next(-1, 1023));
        due.is(-1, () -> x.next(0, 1022));
        x.delete(1022);
        due.is(-1, () -> x.next(-1, 0));
        x.put(1023, 1);
        x.delete(1023);
        due.is(-1, () -> x.next(-1, 1023));
    }

    private void nextRefusesLikewise() {
        due.by("IllegalArgumentException likewise.");
        RunKeeper x = new RunKeeper();
        x.put(0, 1);
        x.snapshot();
        x.snapshot();
        x.release(0);
        for (int key : Fill.outside(0, 1023)) {
            due.refuses(ARGUMENT, () -> x.next(-1, key));
            due.refuses(ARGUMENT, () -> x.next(1, key));
        }
        for (int number : Fill.outside(-1, 5)) {
            due.refuses(ARGUMENT, () -> x.next(number, 0));
        }
        for (int number : new int[] {0, 2, 3, 4, 5}) {
            due.refuses(ARGUMENT, () -> x.next(number, 0));
        }
        due.is(0, () -> x.next(1, 0));
        due.is(-1, () -> x.next(1, 1));
    }

    private void entryRefusesLevelAndWhat() {
        due.by("IllegalArgumentException, first: level, what.");
        RunKeeper x = new RunKeeper();
        Fill.putRuns(x, 5);
        for (int level : Fill.outside(0, 5)) {
            due.refuses(ARGUMENT, () -> x.entry(level, 0, 0, 0));
            due.refuses(ARGUMENT, () -> x.entry(level, 9, 9, 1));
        }
        for (int what : Fill.outside(0, 2)) {
            due.refuses(ARGUMENT, () -> x.entry(0, 0, 0, what));
            due.refuses(ARGUMENT, () -> x.entry(5, -1, -1, what));
        }
        due.refuses(BOUNDS, () -> x.entry(5, 0, 0, 2));
        due.is(5, () -> x.entry(0, 0, 0, 0));
        due.is(1, () -> x.entry(0, 0, 0, 1));
        due.is(0, () -> x.entry(0, 0, 0, 2));
    }

    private void entryRefusesWhatIsNotThere() {
        due.by("IndexOutOfBoundsException: there is none (r or k below 0, too).");
        RunKeeper x = new RunKeeper();
        Fill.putRuns(x, 5);
        x.put(6, 1);
        Fill.putRuns(x, 7);
        x.put(9, 1);
        for (int r : Fill.outside(0, 1)) {
            due.refuses(BOUNDS, () -> x.entry(0, r, 0, 0));
        }
        for (int k : Fill.outside(0, 0)) {
            due.refuses(BOUNDS, () -> x.entry(0, 0, k, 1));
        }
        for (int k : Fill.outside(0, 1)) {
            due.refuses(BOUNDS, () -> x.entry(0, 1, k, 2));
        }
        for (int level = 1; level <= 5; level++) {
            int empty = level;
            due.refuses(BOUNDS, () -> x.entry(empty, 0, 0, 0));
            due.refuses(BOUNDS, () -> x.entry(empty, -1, 0, 0));
        }
        due.is(7, () -> x.entry(0, 1, 1, 0));
    }

    private void entryTellsDeleted() {
        due.by("what 0: key; 1: SEQUENCE; 2: 1 if it is DELETED");
        RunKeeper x = new RunKeeper();
        x.put(1023, 0);
        x.delete(1023);
        x.flush();
        due.is(1023, () -> x.entry(0, 0, 0, 0));
        due.is(2, () -> x.entry(0, 0, 0, 1));
        due.is(1, () -> x.entry(0, 0, 0, 2));
        due.is(1023, () -> x.entry(0, 0, 1, 0));
        due.is(1, () -> x.entry(0, 0, 1, 1));
        due.is(0, () -> x.entry(0, 0, 1, 2));
    }

    private void countOfTheBatchIsMinus1IfNone() {
        due.by("8: writes of the BATCH (-1 none)");
        RunKeeper x = new RunKeeper();
        due.is(-1, () -> x.count(8, 0));
        x.batch();
        due.is(0, () -> x.count(8, 0));
        x.put(1, 1);
        x.delete(1);
        due.is(2, () -> x.count(8, 0));
        x.end(true);
        due.is(-1, () -> x.count(8, 0));
        x.batch();
        due.is(0, () -> x.count(8, 0));
        x.end(false);
        due.is(-1, () -> x.count(8, 0));
        x.batch();
        x.crash();
        due.is(-1, () -> x.count(8, 0));
    }

    private void countInAllIsOfTableAndRuns() {
        due.by("9: ENTRIES in all (those of THE TABLE and of the RUNS; not THE LOG's, nor writes of a BATCH)");
        RunKeeper x = new RunKeeper();
        due.is(0, () -> x.count(9, 0));
        Fill.putRuns(x, 1, 2, 3, 4);
        x.merge(1);
        Fill.putRuns(x, 5, 6);
        Fill.putKeys(x, 0, 3);
        due.is(9, () -> x.count(9, 0));
        x.sync();
        due.is(9, () -> x.count(9, 0));
        Fill.batchOf(x, 0, 5);
        due.is(9, () -> x.count(9, 0));
        x.end(true);
        due.is(14, () -> x.count(9, 0));
        x.crash();
        due.is(9, () -> x.count(9, 0));
    }

    private void countRefusesOthers() {
        due.by("IllegalArgumentException for others");
        RunKeeper x = new RunKeeper();
        for (int what : Fill.outside(0, 9)) {
            due.refuses(ARGUMENT, () -> x.count(what, 0));
            due.refuses(ARGUMENT, () -> x.count(what, what));
        }
        for (int what = 0; what <= 9; what++) {
            int asked = what;
            due.is(what == 8 ? -1 : 0, () -> x.count(asked, 5));
        }
    }

    private void countRefusesLevelsForRunsAndEntriesAlone() {
        due.by("or k of 0, 1 (otherwise k does not matter)");
        RunKeeper x = new RunKeeper();
        Fill.putRuns(x, 1, 2);
        for (int k : Fill.outside(0, 5)) {
            due.refuses(ARGUMENT, () -> x.count(0, k));
            due.refuses(ARGUMENT, () -> x.count(1, k));
            due.is(0, () -> x.count(2, k));
            due.is(0, () -> x.count(3, k));
            due.is(2, () -> x.count(4, k));
            due.is(0, () -> x.count(5, k));
            due.is(0, () -> x.count(6, k));
            due.is(0, () -> x.count(7, k));
            due.is(-1, () -> x.count(8, k));
            due.is(2, () -> x.count(9, k));
        }
        due.is(2, () -> x.count(0, 0));
        due.is(2, () -> x.count(1, 0));
        due.is(0, () -> x.count(0, 5));
        due.is(0, () -> x.count(1, 5));
    }
}
