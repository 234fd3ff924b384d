/** Terms 2, merging, and promise 8, sentence by sentence. */
public final class MergingEdgesTest extends Edges {
    public static void main(String[] args) {
        MergingEdgesTest test = new MergingEdgesTest();
        test.run(
                test::threeRunsAreNotMerged,
                test::fourRunsOrMoreAreMerged,
                test::theLeastLevelIsMergedFirst,
                test::aDeeperLevelIsMergedIfTheUpperOnesHaveFewer,
                test::theLastLevelIsNotMerged,
                test::theNewRunIsTheLatestThere,
                test::ofEachKeyTheGreatestStays,
                test::forEachSnapshotWhatTheKeyHasStays,
                test::whatIsNotMergedDoesNotMatter,
                test::lastDeletedOnesAreLeftOut,
                test::lastDeletedOnesStayAboveARunOfTheirLevel,
                test::lastDeletedOnesStayAboveADeeperRun,
                test::lastDeletedOnesAreLeftOutBelowOtherRuns,
                test::snapshotsDoNotKeepLastDeletedOnes,
                test::theNextToLastDeletedOnesAreLeftOutToo,
                test::deletedOnesAboveANumberStay,
                test::lastIsLastOfItsKey,
                test::aRunWithoutEntriesIsNone,
                test::aStepThatLeavesNoRunIsAStep,
                test::upToNStepsAreDone,
                test::nIsFrom0To100);
    }

    private void threeRunsAreNotMerged() {
        due.by("the least LEVEL below 5 that has 4 RUNS or more");
        RunKeeper x = new RunKeeper();
        due.is(0, () -> x.merge(1));
        Fill.putRuns(x, 1, 2, 3);
        x.put(4, 4);
        due.is(0, () -> x.merge(100));
        hasRuns(x, 0, "1:1", "2:2", "3:3");
        hasRuns(x, 1);
    }

    private void fourRunsOrMoreAreMerged() {
        due.by("the least LEVEL below 5 that has 4 RUNS or more: all its RUNS become one RUN");
        for (int runs = 4; runs <= 9; runs++) {
            RunKeeper x = new RunKeeper();
            for (int i = 0; i < runs; i++) {
                Fill.putRuns(x, i);
            }
            due.is(1, () -> x.merge(100));
            due.is(0, () -> x.count(0, 0));
            due.is(0, () -> x.count(1, 0));
            due.is(1, () -> x.count(0, 1));
            due.is(runs, () -> x.count(1, 1));
            due.is(0, () -> x.merge(100));
        }
    }

    /** Puts one key, so often that a level gets so many runs more. */
    private static void putLevel(RunKeeper x, int level, int runs, int key) {
        for (int i = 0; i < runs; i++) {
            if (level == 0) {
                Fill.putRuns(x, key);
            } else {
                putLevel(x, level - 1, 4, key);
                x.merge(1);
            }
        }
    }

    private void theLeastLevelIsMergedFirst() {
        due.by("the least LEVEL below 5 that has 4 RUNS or more");
        RunKeeper x = new RunKeeper();
        putLevel(x, 1, 4, 7);
        putLevel(x, 0, 4, 7);
        due.is(1, () -> x.merge(1));
        due.is(0, () -> x.count(0, 0));
        due.is(5, () -> x.count(0, 1));
        due.is(0, () -> x.count(0, 2));
        due.is(1, () -> x.merge(1));
        due.is(0, () -> x.count(0, 1));
        hasRuns(x, 2, "7:20");
    }

    private void aDeeperLevelIsMergedIfTheUpperOnesHaveFewer() {
        due.by("the least LEVEL below 5 that has 4 RUNS or more");
        RunKeeper x = new RunKeeper();
        putLevel(x, 2, 3, 7);
        putLevel(x, 1, 4, 7);
        putLevel(x, 0, 3, 7);
        due.is(1, () -> x.merge(1));
        due.is(3, () -> x.count(0, 0));
        due.is(0, () -> x.count(0, 1));
        due.is(4, () -> x.count(0, 2));
        due.is(1, () -> x.merge(1));
        due.is(3, () -> x.count(0, 0));
        due.is(0, () -> x.count(0, 2));
        due.is(1, () -> x.count(0, 3));
    }

    // Levels 4 and 5 lie behind the 512 calls that the document speaks of; the words are kept there, too.
    private void theLastLevelIsNotMerged() {
        due.by("the least LEVEL below 5 that has 4 RUNS or more");
        RunKeeper x = new RunKeeper();
        putLevel(x, 5, 3, 7);
        putLevel(x, 4, 4, 7);
        due.is(4, () -> x.count(0, 4));
        due.is(3, () -> x.count(0, 5));
        due.is(1, () -> x.merge(1));
        due.is(0, () -> x.count(0, 4));
        due.is(4, () -> x.count(0, 5));
        due.is(0, () -> x.merge(100));
        due.is(4, () -> x.count(0, 5));
    }

    private void theNewRunIsTheLatestThere() {
        due.by("all its RUNS become one RUN of the LEVEL behind it (the latest there)");
        RunKeeper x = new RunKeeper();
        Fill.putRuns(x, 4, 3, 2, 1);
        x.merge(1);
        Fill.putRuns(x, 1, 2, 3, 4);
        x.merge(1);
        Fill.putRuns(x, 0, 0, 0, 0);
        x.merge(1);
        hasRuns(x, 0);
        hasRuns(x, 1, "1:4 2:3 3:2 4:1", "1:5 2:6 3:7 4:8", "0:12");
    }

    private void ofEachKeyTheGreatestStays() {
        due.by("of each key the one with the greatest SEQUENCE");
        RunKeeper x = new RunKeeper();
        x.put(1, 10);
        x.put(1, 11);
        x.put(2, 20);
        x.flush();
        x.put(2, 21);
        x.flush();
        Fill.putRuns(x, 3, 3);
        x.merge(1);
        hasRuns(x, 1, "1:2 2:4 3:6");
        due.is(11, () -> x.get(-1, 1));
        due.is(21, () -> x.get(-1, 2));
    }

    private void forEachSnapshotWhatTheKeyHasStays() {
        due.by("and for each SNAPSHOT the one that the key has as of it, among those that are merged");
        RunKeeper x = new RunKeeper();
        x.snapshot();
        for (int v = 1; v <= 5; v++) {
            x.put(1, v);
            x.snapshot();
        }
        x.release(2);
        x.release(5);
        x.snapshot();
        Fill.putRuns(x, 1, 1, 1, 2);
        x.merge(1);
        // Of 0, 1, 3, 4 and (as number 2, taken again) 5 there are snapshots.
        hasRuns(x, 1, "1:8 1:5 1:4 1:3 1:1 2:9");
        due.refuses(NOTHING, () -> x.get(0, 1));
        due.is(1, () -> x.get(1, 1));
        due.is(5, () -> x.get(2, 1));
        due.is(3, () -> x.get(3, 1));
        due.is(4, () -> x.get(4, 1));
    }

    private void whatIsNotMergedDoesNotMatter() {
        due.by("among those that are merged (whatever other RUNS or THE TABLE have)");
        RunKeeper x = new RunKeeper();
        Fill.putRuns(x, 1, 1, 1, 1);
        x.put(1, 50);
        x.snapshot();
        x.put(1, 60);
        x.merge(1);
        // The table has what the snapshot sees, and what the key has now, but its run keeps its greatest one.
        hasRuns(x, 1, "1:4");
        x.flush();
        Fill.putRuns(x, 2, 2, 2);
        x.merge(1);
        hasRuns(x, 1, "1:4", "1:6 1:5 2:9");
        Fill.putRuns(x, 1, 1, 1, 1);
        x.merge(1);
        hasRuns(x, 1, "1:4", "1:6 1:5 2:9", "1:13");
        due.is(50, () -> x.get(0, 1));
    }

    private void lastDeletedOnesAreLeftOut() {
        due.by("DELETED ones that are the last ones of their key in the new RUN are left out");
        RunKeeper x = new RunKeeper();
        Fill.putRuns(x, 1, 2);
        Fill.deleteRuns(x, 1, 3);
        due.is(1, () -> x.merge(1));
        hasRuns(x, 1, "2:2");
        due.is(1, () -> x.count(9, 0));
        due.is(4, () -> x.count(4, 0));
    }

    private void lastDeletedOnesStayAboveARunOfTheirLevel() {
        due.by("if all LEVELS from that of the new RUN on were empty before the step");
        RunKeeper x = new RunKeeper();
        Fill.putRuns(x, 1, 1, 1, 1);
        x.merge(1);
        Fill.deleteRuns(x, 1, 2, 2, 2);
        x.merge(1);
        hasRuns(x, 1, "1:4", "-1:5 -2:8");
        due.refuses(NOTHING, () -> x.get(-1, 1));
    }

    private void lastDeletedOnesStayAboveADeeperRun() {
        due.by("if all LEVELS from that of the new RUN on were empty before the step");
        for (int level = 2; level <= 3; level++) {
            RunKeeper x = new RunKeeper();
            putLevel(x, level, 1, 1);
            due.is(0, () -> x.count(0, 1));
            int written = x.count(4, 0);
            Fill.deleteRuns(x, 1, 2, 2, 2);
            x.merge(1);
            hasRuns(x, 1, "-1:" + (written + 1) + " -2:" + (written + 4));
            due.refuses(NOTHING, () -> x.get(-1, 1));
        }
    }

    private void lastDeletedOnesAreLeftOutBelowOtherRuns() {
        due.by("if all LEVELS from that of the new RUN on were empty before the step");
        RunKeeper x = new RunKeeper();
        putLevel(x, 1, 3, 1);
        Fill.deleteRuns(x, 1, 2, 2, 2);
        x.merge(1);
        hasRuns(x, 1, "1:4", "1:8", "1:12", "-1:13 -2:16");
        Fill.putRuns(x, 2, 3);
        x.put(1, 9);
        // Runs of level 0 and the table have entries, but nothing lies from level 2 on.
        due.is(1, () -> x.merge(1));
        hasRuns(x, 1);
        hasRuns(x, 2);
        hasRuns(x, 0, "2:17", "3:18");
        due.is(9, () -> x.get(-1, 1));
    }

    private void snapshotsDoNotKeepLastDeletedOnes() {
        due.by("are left out (whatever SNAPSHOTS there are)");
        RunKeeper x = new RunKeeper();
        x.delete(1);
        x.snapshot();
        x.put(1, 5);
        x.delete(2);
        x.snapshot();
        x.flush();
        Fill.putRuns(x, 3, 3, 3);
        x.merge(1);
        hasRuns(x, 1, "1:2 3:6");
        due.refuses(NOTHING, () -> x.get(0, 1));
        due.refuses(NOTHING, () -> x.get(1, 2));
        due.is(2, () -> x.count(7, 0));
    }

    private void theNextToLastDeletedOnesAreLeftOutToo() {
        due.by("then the next to last one, if it is DELETED, too, and so on");
        RunKeeper x = new RunKeeper();
        for (int i = 0; i < 4; i++) {
            x.delete(1);
            x.snapshot();
        }
        x.put(1, 5);
        x.snapshot();
        x.delete(1);
        x.flush();
        Fill.putRuns(x, 3, 3, 3);
        x.merge(1);
        hasRuns(x, 1, "-1:6 1:5 3:9");
        RunKeeper y = new RunKeeper();
        for (int i = 0; i < 4; i++) {
            Fill.deleteRuns(y, 1);
            y.snapshot();
        }
        y.merge(1);
        hasRuns(y, 1);
        due.is(0, () -> y.count(9, 0));
    }

    private void deletedOnesAboveANumberStay() {
        due.by("DELETED ones that are the last ones of their key in the new RUN are left out");
        RunKeeper x = new RunKeeper();
        x.put(1, 5);
        x.snapshot();
        x.delete(1);
        x.snapshot();
        x.delete(1);
        x.flush();
        Fill.putRuns(x, 3, 3, 3);
        x.merge(1);
        hasRuns(x, 1, "-1:3 -1:2 1:1 3:6");
        due.is(5, () -> x.get(0, 1));
        due.refuses(NOTHING, () -> x.get(1, 1));
        due.refuses(NOTHING, () -> x.get(-1, 1));
    }

    private void lastIsLastOfItsKey() {
        due.by("DELETED ones that are the last ones of their key in the new RUN are left out");
        RunKeeper x = new RunKeeper();
        x.put(0, 1);
        x.snapshot();
        x.delete(0);
        x.delete(1);
        x.flush();
        Fill.deleteRuns(x, 2, 1023);
        Fill.putRuns(x, 5);
        x.merge(1);
        // What is left out of key 1 must not take the one of key 0 with it, which stands above a number.
        hasRuns(x, 1, "-0:2 0:1 5:6");
        RunKeeper y = new RunKeeper();
        Fill.deleteRuns(y, 0);
        Fill.putRuns(y, 1);
        y.snapshot();
        Fill.deleteRuns(y, 1, 2);
        y.merge(1);
        hasRuns(y, 1, "-1:3 1:2");
    }

    private void aRunWithoutEntriesIsNone() {
        due.by("(A RUN without ENTRIES is none.)");
        RunKeeper x = new RunKeeper();
        Fill.deleteRuns(x, 1, 2, 3, 1);
        x.merge(1);
        for (int level = 0; level <= 5; level++) {
            hasRuns(x, level);
        }
        due.refuses(BOUNDS, () -> x.entry(1, 0, 0, 0));
        due.refuses(NOTHING, () -> x.get(-1, 1));
        isProbed(x, 0, 0);
        due.is(0, x::flush);
        hasRuns(x, 0);
        // Without a run the levels behind are still empty.
        Fill.deleteRuns(x, 1, 2, 3, 1);
        x.merge(1);
        hasRuns(x, 1);
    }

    private void aStepThatLeavesNoRunIsAStep() {
        due.by("Up to n steps of MERGING: how many.");
        RunKeeper x = new RunKeeper();
        for (int i = 0; i < 5; i++) {
            Fill.deleteRuns(x, 1, 2, 3, 1);
            due.is(1, () -> x.merge(100));
            hasRuns(x, 1);
        }
        due.is(0, () -> x.merge(100));
    }

    /** Levels 0, 1 and 2 with four, three and three runs: each step makes the fourth run for the next one. */
    private static RunKeeper withThreeSteps() {
        RunKeeper x = new RunKeeper();
        putLevel(x, 2, 3, 7);
        putLevel(x, 1, 3, 7);
        putLevel(x, 0, 4, 7);
        return x;
    }

    private void upToNStepsAreDone() {
        due.by("Up to n steps of MERGING: how many.");
        for (int n : new int[] {0, 1, 2, 3, 4, 99, 100}) {
            RunKeeper x = withThreeSteps();
            int steps = Math.min(n, 3);
            due.is(steps, () -> x.merge(n));
            due.is(steps == 0 ? 4 : 0, () -> x.count(0, 0));
            due.is(steps == 0 ? 3 : steps == 1 ? 4 : 0, () -> x.count(0, 1));
            due.is(steps < 2 ? 3 : steps == 2 ? 4 : 0, () -> x.count(0, 2));
            due.is(steps == 3 ? 1 : 0, () -> x.count(0, 3));
            due.is(3 - steps, () -> x.merge(100));
            due.is(0, () -> x.merge(100));
        }
    }

    private void nIsFrom0To100() {
        due.by("IllegalArgumentException: n is not 0..100.");
        RunKeeper x = new RunKeeper();
        Fill.putRuns(x, 1, 2, 3, 4);
        for (int n : Fill.outside(0, 100)) {
            due.refuses(ARGUMENT, () -> x.merge(n));
        }
        due.is(4, () -> x.count(0, 0));
        due.is(0, () -> x.merge(0));
        due.is(4, () -> x.count(0, 0));
        due.is(1, () -> x.merge(100));
        RunKeeper y = new RunKeeper();
        for (int n = 0; n <= 100; n++) {
            int steps = n;
            due.is(0, () -> y.merge(steps));
        }
    }
}
