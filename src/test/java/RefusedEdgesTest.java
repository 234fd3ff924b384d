import java.util.function.Supplier;

/** Terms 4, what its last two sentences say of exceptions. */
public final class RefusedEdgesTest extends Edges {
    public static void main(String[] args) {
        RefusedEdgesTest test = new RefusedEdgesTest();
        test.run(
                test::writesNameTheKeyFirst,
                test::endNamesTheBatchFirst,
                test::getNamesItsArgumentsFirst,
                test::entryNamesItsArgumentsFirst,
                test::aRichStateHasSomethingOfEach,
                test::refusedWritesChangeNothing,
                test::refusedBatchesChangeNothing,
                test::refusedMergesChangeNothing,
                test::refusedSnapshotsChangeNothing,
                test::refusedLooksChangeNothing,
                test::aGetOfNothingChangesOnlyWhatItProbed,
                test::refusedEntriesAndCountsChangeNothing,
                test::refusedWritesOf600ChangeNothing);
    }

    private void writesNameTheKeyFirst() {
        due.by("Of several exceptions of a call the one that its words name first is thrown");
        RunKeeper full = Fill.withEntries(600);
        RunKeeper batch = new RunKeeper();
        Fill.batchOf(batch, 0, 16);
        for (int key : Fill.outside(0, 1023)) {
            due.refuses(ARGUMENT, () -> batch.put(key, 1));
            due.refuses(ARGUMENT, () -> batch.delete(key));
            due.refuses(ARGUMENT, () -> full.put(key, 1));
            due.refuses(ARGUMENT, () -> full.delete(key));
        }
        due.refuses(BOUNDS, () -> batch.put(0, 1));
        due.refuses(BOUNDS, () -> batch.delete(1023));
        due.refuses(BOUNDS, () -> full.put(0, 1));
        due.refuses(BOUNDS, () -> full.delete(1023));
    }

    private void endNamesTheBatchFirst() {
        due.by("Of several exceptions of a call the one that its words name first is thrown");
        RunKeeper x = Fill.withEntries(600);
        due.refuses(STATE, () -> x.end(true));
        due.refuses(STATE, () -> x.end(false));
        Fill.batchOf(x, 0, 1);
        due.refuses(BOUNDS, () -> x.end(true));
    }

    private void getNamesItsArgumentsFirst() {
        due.by("Of several exceptions of a call the one that its words name first is thrown");
        RunKeeper x = new RunKeeper();
        x.put(5, 5);
        due.refuses(ARGUMENT, () -> x.get(-1, 1024));
        due.refuses(ARGUMENT, () -> x.get(0, 4));
        due.refuses(ARGUMENT, () -> x.get(-2, 4));
        due.refuses(ARGUMENT, () -> x.get(6, -1));
        due.refuses(NOTHING, () -> x.get(-1, 4));
    }

    private void entryNamesItsArgumentsFirst() {
        due.by("IllegalArgumentException, first: level, what.");
        RunKeeper x = new RunKeeper();
        for (int wrong : Fill.outside(0, 5)) {
            due.refuses(ARGUMENT, () -> x.entry(wrong, 0, 0, 0));
            due.refuses(ARGUMENT, () -> x.entry(wrong, -1, -1, 0));
            due.refuses(ARGUMENT, () -> x.entry(0, 0, 0, wrong));
            due.refuses(ARGUMENT, () -> x.entry(0, wrong, wrong, wrong));
            due.refuses(BOUNDS, () -> x.entry(0, wrong, wrong, 0));
        }
    }

    /** Every kind of state at once, but for a batch: runs of two levels, snapshots, safe and other writes, probes. */
    private static RunKeeper rich() {
        RunKeeper x = new RunKeeper();
        Fill.putRuns(x, 1, 2, 1, 2);
        x.merge(1);
        x.snapshot();
        Fill.deleteRuns(x, 1);
        Fill.putRuns(x, 1023, 2);
        x.snapshot();
        for (int key = 100; key <= 800; key += 100) {
            x.put(key, key);
        }
        x.flush();
        x.put(0, 50);
        x.sync();
        x.put(2, 60);
        // Key 114 is not there, but the filter of the hundreds has it.
        Due.answerOf(() -> x.get(-1, 114));
        return x;
    }

    private void aRichStateHasSomethingOfEach() {
        due.by("A call that throws changes nothing but what is said there.");
        isProbed(rich(), 1, 1);
        hasInMemory(rich(), 2, 1);
        due.is(4, () -> rich().count(0, 0));
        due.is(1, () -> rich().count(0, 1));
        due.is(2, () -> rich().count(7, 0));
        due.is(3, () -> richWithBatch(3).count(8, 0));
        due.is(6, () -> richWithSnapshots().count(7, 0));
    }

    private static RunKeeper richWithBatch(int writes) {
        RunKeeper x = rich();
        x.batch();
        for (int i = 0; i < writes; i++) {
            x.put(i % 3, 70 + i);
        }
        return x;
    }

    private static RunKeeper richWithSnapshots() {
        RunKeeper x = rich();
        for (int i = 2; i < 6; i++) {
            x.put(1, 80 + i);
            x.snapshot();
        }
        return x;
    }

    private interface Ask {
        Object of(RunKeeper x);
    }

    private static Object done(Due.Deed deed) {
        deed.make();
        return "done";
    }

    /** Two objects made alike must be alike, though the one was asked for what it refuses. */
    private void changesNothing(Supplier<RunKeeper> made, Class<? extends RuntimeException> want, Ask refused) {
        RunKeeper asked = made.get();
        due.refuses(want, () -> refused.of(asked));
        due.same(State.of(made.get()), State.of(asked));
    }

    private void refusedWritesChangeNothing() {
        due.by("A call that throws changes nothing but what is said there.");
        for (int key : Fill.outside(0, 1023)) {
            changesNothing(RefusedEdgesTest::rich, ARGUMENT, x -> x.put(key, 9));
            changesNothing(RefusedEdgesTest::rich, ARGUMENT, x -> x.delete(key));
            changesNothing(() -> richWithBatch(3), ARGUMENT, x -> x.put(key, 9));
            changesNothing(() -> richWithBatch(3), ARGUMENT, x -> x.delete(key));
        }
        changesNothing(() -> richWithBatch(16), BOUNDS, x -> x.put(1, 9));
        changesNothing(() -> richWithBatch(16), BOUNDS, x -> x.delete(2));
    }

    private void refusedBatchesChangeNothing() {
        due.by("A call that throws changes nothing but what is said there.");
        changesNothing(() -> richWithBatch(0), STATE, x -> done(x::batch));
        changesNothing(() -> richWithBatch(5), STATE, x -> done(x::batch));
        changesNothing(RefusedEdgesTest::rich, STATE, x -> x.end(true));
        changesNothing(RefusedEdgesTest::rich, STATE, x -> x.end(false));
    }

    private void refusedMergesChangeNothing() {
        due.by("A call that throws changes nothing but what is said there.");
        for (int n : Fill.outside(0, 100)) {
            changesNothing(RefusedEdgesTest::rich, ARGUMENT, x -> x.merge(n));
        }
    }

    private void refusedSnapshotsChangeNothing() {
        due.by("A call that throws changes nothing but what is said there.");
        changesNothing(RefusedEdgesTest::richWithSnapshots, BOUNDS, RunKeeper::snapshot);
        for (int number : Fill.outside(0, 5)) {
            changesNothing(RefusedEdgesTest::richWithSnapshots, ARGUMENT, x -> done(() -> x.release(number)));
        }
        changesNothing(RefusedEdgesTest::rich, ARGUMENT, x -> done(() -> x.release(2)));
    }

    private void refusedLooksChangeNothing() {
        due.by("A call that throws changes nothing but what is said there.");
        for (int wrong : Fill.outside(-1, 1023)) {
            changesNothing(RefusedEdgesTest::rich, ARGUMENT, x -> x.get(wrong, 100));
            changesNothing(RefusedEdgesTest::rich, ARGUMENT, x -> x.next(wrong, 100));
            changesNothing(RefusedEdgesTest::rich, ARGUMENT, x -> x.get(0, wrong));
            changesNothing(RefusedEdgesTest::rich, ARGUMENT, x -> x.next(0, wrong));
        }
    }

    private void aGetOfNothingChangesOnlyWhatItProbed() {
        due.by("A call that throws changes nothing but what is said there.");
        RunKeeper asked = rich();
        RunKeeper other = rich();
        due.refuses(NOTHING, () -> asked.get(-1, 1));
        due.refuses(NOTHING, () -> asked.get(1, 3));
        due.is(50, () -> asked.get(-1, 0));
        due.is(50, () -> other.get(-1, 0));
        due.same(State.of(other), State.of(asked));
    }

    private void refusedEntriesAndCountsChangeNothing() {
        due.by("A call that throws changes nothing but what is said there.");
        for (int wrong : Fill.outside(0, 9)) {
            changesNothing(RefusedEdgesTest::rich, ARGUMENT, x -> x.entry(wrong, 0, 0, 0));
            changesNothing(RefusedEdgesTest::rich, ARGUMENT, x -> x.entry(0, 0, 0, wrong));
            changesNothing(RefusedEdgesTest::rich, BOUNDS, x -> x.entry(0, wrong, 0, 0));
            changesNothing(RefusedEdgesTest::rich, BOUNDS, x -> x.entry(0, 0, wrong, 0));
            changesNothing(RefusedEdgesTest::rich, ARGUMENT, x -> x.count(wrong, 0));
            changesNothing(RefusedEdgesTest::rich, ARGUMENT, x -> x.count(0, wrong));
        }
    }

    // 600 entries lie behind the 512 calls that the document speaks of; the words are kept there, too.
    private void refusedWritesOf600ChangeNothing() {
        due.by("A call that throws changes nothing but what is said there.");
        changesNothing(() -> Fill.withEntries(600), BOUNDS, x -> x.put(1, 9));
        changesNothing(() -> Fill.withEntries(600), BOUNDS, x -> x.delete(1));
        changesNothing(RefusedEdgesTest::fullWithBatch, BOUNDS, x -> x.end(true));
    }

    private static RunKeeper fullWithBatch() {
        RunKeeper x = Fill.withEntries(595);
        Fill.batchOf(x, 0, 6);
        return x;
    }
}
