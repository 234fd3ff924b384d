/** What the tests of single sentences share: the exceptions of the document, and the answers that are due. */
abstract class Edges {
    static final Class<IllegalArgumentException> ARGUMENT = IllegalArgumentException.class;
    static final Class<IndexOutOfBoundsException> BOUNDS = IndexOutOfBoundsException.class;
    static final Class<IllegalStateException> STATE = IllegalStateException.class;
    static final Class<UnsupportedOperationException> NOTHING = UnsupportedOperationException.class;

    final Due due = new Due(getClass().getSimpleName());

    /** Runs the tests one by one, so that one that breaks off does not hide what the others find. */
    void run(Due.Deed... tests) {
        for (Due.Deed test : tests) {
            due.isDone(test);
        }
        due.end();
    }

    /** What the latest get() of an object probed, and in how many of these runs the key was not. */
    void isProbed(RunKeeper x, int runs, int inVain) {
        due.is(runs, () -> x.count(5, 0));
        due.is(inVain, () -> x.count(6, 0));
    }

    /** How many entries the table has, and how many of the log are safe. */
    void hasInMemory(RunKeeper x, int entries, int safe) {
        due.is(entries, () -> x.count(2, 0));
        due.is(safe, () -> x.count(3, 0));
    }

    void hasRuns(RunKeeper x, int level, String... texts) {
        due.is(texts.length, () -> x.count(0, level));
        for (int r = 0; r < texts.length; r++) {
            due.same(texts[r], Fill.run(x, level, r));
        }
    }
}
