/** Terms 1, sentence by sentence where one names a boundary. */
public final class Terms1EdgesTest extends Edges {
    public static void main(String[] args) {
        Terms1EdgesTest test = new Terms1EdgesTest();
        test.run(
                test::keysAreFrom0To1023,
                test::everyKeyIsItsOwn,
                test::keysOutsideAreNone,
                test::theFirstWriteHasSequence1,
                test::theFirstWriteOfABatchHasSequence1,
                test::eachWriteHasTheNextSequence,
                test::refusedAndGivenUpWritesHaveNoSequence,
                test::syncMakesSafeUpToItself,
                test::ofOneKeyTheGreatestSequenceIsFirst,
                test::levelsAreFrom0To5,
                test::theLatestRunIsLast,
                test::asOfASequenceMeansUpToIt,
                test::theGreatestCountsWhereverItIs,
                test::deletedIsNothing,
                test::noEntryIsNothing,
                test::everyNumberIsSomething);
    }

    private void keysAreFrom0To1023() {
        due.by("KEYS 0..1023");
        RunKeeper x = new RunKeeper();
        due.is(1, () -> x.put(0, 10));
        due.is(2, () -> x.put(1023, 11));
        due.is(10, () -> x.get(-1, 0));
        due.is(11, () -> x.get(-1, 1023));
        due.is(0, () -> x.next(-1, 0));
        due.is(1023, () -> x.next(-1, 1));
        due.is(1023, () -> x.next(-1, 1023));
        due.is(3, () -> x.delete(0));
        due.is(4, () -> x.delete(1023));
        due.is(-1, () -> x.next(-1, 0));
        due.is(-1, () -> x.next(-1, 1023));
        x.flush();
        hasRuns(x, 0, "-0:3 0:1 -1023:4 1023:2");
    }

    private void everyKeyIsItsOwn() {
        due.by("KEYS 0..1023");
        for (int key = 0; key <= 1023; key++) {
            int asked = key;
            RunKeeper x = new RunKeeper();
            due.is(1, () -> x.put(asked, 1000L + asked));
            due.is(1000L + key, () -> x.get(-1, asked));
            due.is(key, () -> x.next(-1, 0));
            x.flush();
            due.is(key, () -> x.entry(0, 0, 0, 0));
            due.is(1000L + key, () -> x.get(-1, asked));
        }
    }

    private void keysOutsideAreNone() {
        due.by("KEYS 0..1023");
        RunKeeper x = new RunKeeper();
        for (int key : Fill.outside(0, 1023)) {
            due.refuses(ARGUMENT, () -> x.put(key, 1));
            due.refuses(ARGUMENT, () -> x.delete(key));
            due.refuses(ARGUMENT, () -> x.get(-1, key));
            due.refuses(ARGUMENT, () -> x.next(-1, key));
        }
        due.is(0, () -> x.count(9, 0));
    }

    private void theFirstWriteHasSequence1() {
        due.by("each write has the next one, 1 first");
        RunKeeper x = new RunKeeper();
        due.is(1, () -> x.put(7, 1));
        due.is(1, () -> x.count(4, 0));
        RunKeeper y = new RunKeeper();
        due.is(1, () -> y.delete(7));
        y.flush();
        hasRuns(y, 0, "-7:1");
    }

    private void theFirstWriteOfABatchHasSequence1() {
        due.by("each write has the next one, 1 first");
        RunKeeper x = new RunKeeper();
        Fill.batchOf(x, 5, 3);
        due.is(0, () -> x.count(4, 0));
        x.end(true);
        due.is(3, () -> x.count(4, 0));
        x.flush();
        hasRuns(x, 0, "5:1 6:2 7:3");
    }

    private void eachWriteHasTheNextSequence() {
        due.by("each write has the next one, 1 first");
        RunKeeper x = new RunKeeper();
        for (int i = 1; i <= 30; i++) {
            int sequence = i;
            due.is(sequence, () -> sequence % 3 == 0 ? x.delete(9) : x.put(9, 1));
        }
        Fill.batchOf(x, 0, 2);
        x.end(true);
        due.is(33, () -> x.put(0, 1));
        x.flush();
        due.is(34, () -> x.put(0, 1));
        Fill.putRuns(x, 1, 1, 1);
        x.merge(100);
        due.is(38, () -> x.put(0, 1));
    }

    private void refusedAndGivenUpWritesHaveNoSequence() {
        due.by("each write has the next one, 1 first");
        RunKeeper x = new RunKeeper();
        due.refuses(ARGUMENT, () -> x.put(1024, 1));
        due.is(1, () -> x.put(1, 1));
        due.refuses(ARGUMENT, () -> x.delete(-1));
        Fill.batchOf(x, 0, 16);
        due.refuses(BOUNDS, () -> x.put(1, 1));
        x.end(false);
        due.is(1, () -> x.count(4, 0));
        due.is(2, () -> x.delete(1));
    }

    private void syncMakesSafeUpToItself() {
        due.by("of which those up to the latest sync() are SAFE");
        RunKeeper x = new RunKeeper();
        Fill.putKeys(x, 0, 3);
        hasInMemory(x, 3, 0);
        x.sync();
        hasInMemory(x, 3, 3);
        x.put(3, 3);
        hasInMemory(x, 4, 3);
        x.sync();
        Fill.putKeys(x, 4, 5);
        hasInMemory(x, 9, 4);
        due.is(4, x::crash);
        due.is(3, () -> x.get(-1, 3));
        due.refuses(NOTHING, () -> x.get(-1, 4));
    }

    private void ofOneKeyTheGreatestSequenceIsFirst() {
        due.by("RUNS have ENTRIES by keys, of one key the greatest SEQUENCE first");
        RunKeeper x = new RunKeeper();
        x.put(1023, 1);
        x.put(0, 1);
        x.delete(1023);
        x.delete(0);
        x.put(512, 1);
        x.put(0, 1);
        x.flush();
        hasRuns(x, 0, "0:6 -0:4 0:2 512:5 -1023:3 1023:1");
    }

    private void levelsAreFrom0To5() {
        due.by("stand in LEVELS 0..5");
        RunKeeper x = new RunKeeper();
        for (int level = 0; level <= 5; level++) {
            int asked = level;
            due.is(0, () -> x.count(0, asked));
            due.is(0, () -> x.count(1, asked));
            due.refuses(BOUNDS, () -> x.entry(asked, 0, 0, 0));
        }
        for (int level : Fill.outside(0, 5)) {
            due.refuses(ARGUMENT, () -> x.count(0, level));
            due.refuses(ARGUMENT, () -> x.count(1, level));
            due.refuses(ARGUMENT, () -> x.entry(level, 0, 0, 0));
        }
    }

    private void theLatestRunIsLast() {
        due.by("each a row of RUNS, the latest last");
        RunKeeper x = new RunKeeper();
        Fill.putRuns(x, 9, 5, 7);
        hasRuns(x, 0, "9:1", "5:2", "7:3");
        Fill.putRuns(x, 1, 2);
        x.merge(1);
        Fill.putRuns(x, 0, 0, 0, 0);
        x.merge(1);
        hasRuns(x, 1, "1:4 2:5 5:2 7:3 9:1", "0:9");
    }

    private void asOfASequenceMeansUpToIt() {
        due.by("the ENTRY with the greatest one up to that");
        RunKeeper x = new RunKeeper();
        x.put(1, 10);
        x.put(1, 11);
        x.snapshot();
        x.put(1, 12);
        due.is(11, () -> x.get(0, 1));
        due.is(12, () -> x.get(-1, 1));
        x.flush();
        due.is(11, () -> x.get(0, 1));
        due.is(12, () -> x.get(-1, 1));
        due.is(1, () -> x.next(0, 0));
    }

    private void theGreatestCountsWhereverItIs() {
        due.by("the ENTRY with the greatest one up to that, wherever it is");
        RunKeeper x = new RunKeeper();
        for (int v = 0; v < 4; v++) {
            x.put(1, v);
            x.flush();
        }
        x.merge(1);
        x.snapshot();
        x.put(1, 20);
        x.flush();
        x.snapshot();
        x.put(1, 30);
        x.flush();
        x.snapshot();
        x.put(1, 40);
        due.is(3, () -> x.get(0, 1));
        due.is(20, () -> x.get(1, 1));
        due.is(30, () -> x.get(2, 1));
        due.is(40, () -> x.get(-1, 1));
    }

    private void deletedIsNothing() {
        due.by("its number, nothing if it is DELETED, or there is none");
        RunKeeper x = new RunKeeper();
        x.put(1, 10);
        x.flush();
        x.delete(1);
        due.refuses(NOTHING, () -> x.get(-1, 1));
        due.is(-1, () -> x.next(-1, 0));
        x.snapshot();
        x.put(1, 12);
        due.refuses(NOTHING, () -> x.get(0, 1));
        due.is(-1, () -> x.next(0, 1));
        x.flush();
        due.refuses(NOTHING, () -> x.get(0, 1));
        due.is(-1, () -> x.next(0, 1));
        due.is(12, () -> x.get(-1, 1));
    }

    private void noEntryIsNothing() {
        due.by("its number, nothing if it is DELETED, or there is none");
        RunKeeper x = new RunKeeper();
        due.refuses(NOTHING, () -> x.get(-1, 0));
        due.is(-1, () -> x.next(-1, 0));
        x.snapshot();
        x.put(5, 5);
        due.refuses(NOTHING, () -> x.get(0, 5));
        due.is(-1, () -> x.next(0, 5));
        x.flush();
        due.refuses(NOTHING, () -> x.get(0, 5));
        due.is(-1, () -> x.next(0, 5));
        due.refuses(NOTHING, () -> x.get(-1, 4));
        due.refuses(NOTHING, () -> x.get(-1, 6));
    }

    private void everyNumberIsSomething() {
        due.by("its number, nothing if it is DELETED, or there is none");
        for (long v : new long[] {0, -1, 1, Integer.MIN_VALUE, Integer.MAX_VALUE, 1L << 32, Long.MIN_VALUE, Long.MAX_VALUE}) {
            RunKeeper x = new RunKeeper();
            x.put(8, v);
            due.is(v, () -> x.get(-1, 8));
            due.is(8, () -> x.next(-1, 0));
            x.sync();
            x.crash();
            due.is(v, () -> x.get(-1, 8));
            x.flush();
            due.is(v, () -> x.get(-1, 8));
            Fill.putRuns(x, 1, 2, 3);
            x.merge(1);
            due.is(v, () -> x.get(-1, 8));
            due.is(8, () -> x.next(-1, 4));
        }
    }
}
