/** Promises 1 to 5: a new object, put, delete, batch and end. */
public final class WritesTest {
    private static final Class<IllegalArgumentException> ARGUMENT = IllegalArgumentException.class;
    private static final Class<IndexOutOfBoundsException> BOUNDS = IndexOutOfBoundsException.class;
    private static final Class<IllegalStateException> STATE = IllegalStateException.class;
    private static final Class<UnsupportedOperationException> NOTHING = UnsupportedOperationException.class;

    private final Due due = new Due("WritesTest");

    public static void main(String[] args) {
        WritesTest test = new WritesTest();
        test.newObjectHasNothing();
        test.newObjectsAreApart();
        test.putAnswersItsSequence();
        test.putKeepsEveryNumber();
        test.putRefusesWrongKeys();
        test.putFlushesAtTwentyFour();
        test.putRefusesAtSixHundred();
        test.deleteIsAWrite();
        test.deleteRefusesWrongKeysAndFlushes();
        test.deleteRefusesAtSixHundred();
        test.batchBeginsOnce();
        test.batchKeepsWritesAside();
        test.batchHoldsSixteen();
        test.batchLeavesOtherCallsAlone();
        test.endDoesWritesInOrder();
        test.endGivesUp();
        test.endLooksAtFlushingBehindAll();
        test.endRefusesBeyondSixHundred();
        test.due.end();
    }

    private void newObjectHasNothing() {
        RunKeeper x = new RunKeeper();
        for (int level = 0; level <= 5; level++) {
            int k = level;
            due.is(0, () -> x.count(0, k));
            due.is(0, () -> x.count(1, k));
        }
        for (int what : new int[] {2, 3, 4, 5, 6, 7, 9}) {
            due.is(0, () -> x.count(what, 0));
        }
        due.is(-1, () -> x.count(8, 0));
        due.is(-1, () -> x.next(-1, 0));
        due.refuses(NOTHING, () -> x.get(-1, 0));
        due.refuses(BOUNDS, () -> x.entry(0, 0, 0, 0));
        due.refusesTo(ARGUMENT, () -> x.release(0));
        due.refuses(STATE, () -> x.end(true));
        due.is(0, x::sync);
        due.is(0, x::flush);
        due.is(0, () -> x.merge(100));
        due.is(0, x::crash);
    }

    private void newObjectsAreApart() {
        RunKeeper x = new RunKeeper();
        Fill.putRuns(x, 1, 2, 3);
        RunKeeper y = new RunKeeper();
        due.is(0, () -> y.count(9, 0));
        due.is(1, () -> y.put(1, 5));
        due.is(1, () -> x.get(-1, 1));
    }

    private void putAnswersItsSequence() {
        RunKeeper x = new RunKeeper();
        due.is(1, () -> x.put(0, 7));
        due.is(2, () -> x.put(1023, 8));
        due.is(3, () -> x.put(0, 9));
        due.is(3, () -> x.count(4, 0));
        due.is(3, () -> x.count(2, 0));
        due.is(9, () -> x.get(-1, 0));
        due.is(8, () -> x.get(-1, 1023));
    }

    private void putKeepsEveryNumber() {
        RunKeeper x = new RunKeeper();
        for (long v : new long[] {Long.MIN_VALUE, -1, 0, 1L << 40, Long.MAX_VALUE}) {
            x.put(3, v);
            due.is(v, () -> x.get(-1, 3));
            x.flush();
            due.is(v, () -> x.get(-1, 3));
        }
        x.merge(1);
        due.is(Long.MAX_VALUE, () -> x.get(-1, 3));
    }

    private void putRefusesWrongKeys() {
        RunKeeper x = new RunKeeper();
        for (int key : new int[] {-1, 1024, Integer.MIN_VALUE, Integer.MAX_VALUE}) {
            due.refuses(ARGUMENT, () -> x.put(key, 1));
        }
        due.is(0, () -> x.count(4, 0));
        due.is(0, () -> x.count(9, 0));
        due.is(1, () -> x.put(1, 1));
    }

    private void putFlushesAtTwentyFour() {
        RunKeeper x = new RunKeeper();
        Fill.putKeys(x, 0, 23);
        x.sync();
        due.is(0, () -> x.count(0, 0));
        due.is(23, () -> x.count(2, 0));
        due.is(24, () -> x.put(5, 5));
        due.is(1, () -> x.count(0, 0));
        due.is(24, () -> x.count(1, 0));
        due.is(0, () -> x.count(2, 0));
        due.is(0, () -> x.count(3, 0));
        due.is(24, () -> x.entry(0, 0, 5, 1));
        due.is(6, () -> x.entry(0, 0, 6, 1));
        due.is(25, () -> x.put(5, 5));
    }

    // 600 entries need more than the 512 calls that the document speaks of, and so what is answered
    // there is free: these tests say that the limit stands where its words put it all the same.
    private void putRefusesAtSixHundred() {
        RunKeeper x = Fill.withEntries(599);
        due.is(600, () -> x.put(1, 1));
        due.refuses(BOUNDS, () -> x.put(1, 1));
        due.refuses(ARGUMENT, () -> x.put(1024, 1));
        due.is(600, () -> x.count(9, 0));
        due.is(600, () -> x.count(4, 0));
    }

    private void deleteIsAWrite() {
        RunKeeper x = new RunKeeper();
        x.put(4, 44);
        due.is(2, () -> x.delete(4));
        due.refuses(NOTHING, () -> x.get(-1, 4));
        due.is(3, () -> x.delete(9));
        due.is(3, () -> x.count(2, 0));
        due.is(3, x::flush);
        due.same("-4:2 4:1 -9:3", Fill.run(x, 0, 0));
        due.is(4, () -> x.put(4, 45));
        due.is(45, () -> x.get(-1, 4));
    }

    private void deleteRefusesWrongKeysAndFlushes() {
        RunKeeper x = new RunKeeper();
        due.refuses(ARGUMENT, () -> x.delete(-1));
        due.refuses(ARGUMENT, () -> x.delete(1024));
        due.is(0, () -> x.count(4, 0));
        Fill.putKeys(x, 0, 23);
        due.is(24, () -> x.delete(1023));
        due.is(1, () -> x.count(0, 0));
        due.is(1, () -> x.entry(0, 0, 23, 2));
        due.is(0, () -> x.count(2, 0));
    }

    private void deleteRefusesAtSixHundred() {
        RunKeeper x = Fill.withEntries(599);
        due.is(600, () -> x.delete(0));
        due.refuses(BOUNDS, () -> x.delete(0));
        due.refuses(ARGUMENT, () -> x.delete(-1));
    }

    private void batchBeginsOnce() {
        RunKeeper x = new RunKeeper();
        due.isDone(x::batch);
        due.is(0, () -> x.count(8, 0));
        x.put(1, 1);
        due.refusesTo(STATE, x::batch);
        due.is(1, () -> x.count(8, 0));
        x.end(true);
        due.isDone(x::batch);
        due.is(0, () -> x.count(8, 0));
        x.end(false);
        due.is(-1, () -> x.count(8, 0));
    }

    private void batchKeepsWritesAside() {
        RunKeeper x = new RunKeeper();
        x.put(1, 10);
        x.batch();
        due.is(1, () -> x.delete(1));
        due.is(2, () -> x.put(2, 20));
        due.is(1, () -> x.count(4, 0));
        due.is(1, () -> x.count(2, 0));
        due.is(1, () -> x.count(9, 0));
        due.is(10, () -> x.get(-1, 1));
        due.is(-1, () -> x.next(-1, 2));
        due.refuses(NOTHING, () -> x.get(-1, 2));
    }

    private void batchHoldsSixteen() {
        RunKeeper x = new RunKeeper();
        x.batch();
        Fill.putKeys(x, 0, 15);
        due.is(16, () -> x.delete(0));
        due.refuses(BOUNDS, () -> x.put(1, 1));
        due.refuses(BOUNDS, () -> x.delete(1));
        due.refuses(ARGUMENT, () -> x.put(-1, 1));
        due.refuses(ARGUMENT, () -> x.delete(1024));
        due.is(16, () -> x.count(8, 0));
        due.is(16, () -> x.end(true));
        due.is(16, () -> x.count(4, 0));
        x.batch();
        due.is(1, () -> x.put(1, 1));
    }

    private void batchLeavesOtherCallsAlone() {
        RunKeeper x = new RunKeeper();
        Fill.putRuns(x, 1, 2, 3);
        x.put(4, 4);
        x.batch();
        x.put(5, 5);
        due.is(1, x::sync);
        due.is(0, x::snapshot);
        due.is(1, x::flush);
        due.is(1, () -> x.merge(9));
        due.is(4, () -> x.get(0, 4));
        due.is(4, () -> x.next(-1, 4));
        due.is(0, x::flush);
        due.is(1, () -> x.count(8, 0));
        due.is(1, () -> x.end(true));
        due.is(5, () -> x.get(-1, 5));
        due.refuses(NOTHING, () -> x.get(0, 5));
    }

    private void endDoesWritesInOrder() {
        RunKeeper x = new RunKeeper();
        x.put(9, 9);
        x.batch();
        x.put(1, 1);
        x.delete(1);
        x.put(1, 3);
        x.delete(9);
        due.is(4, () -> x.end(true));
        due.refuses(STATE, () -> x.end(true));
        due.refuses(STATE, () -> x.end(false));
        due.is(5, () -> x.count(4, 0));
        due.is(3, () -> x.get(-1, 1));
        due.is(0, () -> x.count(3, 0));
        x.flush();
        due.same("1:4 -1:3 1:2 -9:5 9:1", Fill.run(x, 0, 0));
        x.batch();
        due.is(0, () -> x.end(true));
        due.is(5, () -> x.count(4, 0));
    }

    private void endGivesUp() {
        RunKeeper x = new RunKeeper();
        x.put(1, 1);
        x.batch();
        x.put(1, 2);
        due.is(0, () -> x.end(false));
        due.refuses(STATE, () -> x.end(false));
        due.is(1, () -> x.get(-1, 1));
        due.is(1, () -> x.count(9, 0));
        due.is(2, () -> x.put(1, 3));
    }

    private void endLooksAtFlushingBehindAll() {
        RunKeeper x = new RunKeeper();
        Fill.putKeys(x, 0, 23);
        x.batch();
        Fill.putKeys(x, 100, 16);
        due.is(23, () -> x.count(2, 0));
        due.is(16, () -> x.end(true));
        due.is(1, () -> x.count(0, 0));
        due.is(39, () -> x.count(1, 0));
        due.is(0, () -> x.count(2, 0));
        Fill.putKeys(x, 0, 7);
        x.batch();
        Fill.putKeys(x, 100, 16);
        due.is(16, () -> x.end(true));
        due.is(23, () -> x.count(2, 0));
        x.batch();
        x.put(1, 1);
        due.is(1, () -> x.end(true));
        due.is(2, () -> x.count(0, 0));
    }

    private void endRefusesBeyondSixHundred() {
        RunKeeper x = Fill.withEntries(599);
        x.batch();
        due.is(1, () -> x.put(1, 1));
        due.is(2, () -> x.put(2, 2));
        due.refuses(BOUNDS, () -> x.end(true));
        due.is(2, () -> x.count(8, 0));
        due.is(599, () -> x.count(9, 0));
        due.is(599, () -> x.count(4, 0));
        due.is(0, () -> x.end(false));
        x.batch();
        x.put(1, 1);
        due.is(1, () -> x.end(true));
        due.is(600, () -> x.count(9, 0));
        x.batch();
        due.is(1, () -> x.put(1, 1));
        due.refuses(BOUNDS, () -> x.end(true));
        due.is(0, () -> x.end(false));
        x.batch();
        due.is(0, () -> x.end(true));
    }
}
