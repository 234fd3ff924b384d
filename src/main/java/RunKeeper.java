import java.util.ArrayList;

/** A store of keys and numbers that writes behind; ../shared/DOC.md says what it promises. */
public final class RunKeeper {
    private static final int KEYS = 1024;
    private static final int LEVELS = 6;
    private static final int FULL_TABLE = 24;
    private static final int MOST_IN_BATCH = 16;
    private static final int MOST_ENTRIES = 600;
    private static final int MOST_SNAPSHOTS = 6;
    private static final int MOST_STEPS = 100;
    private static final int RUNS_TO_MERGE = 4;
    private static final int NOW = -1;
    // A write that waits in a batch gets its sequence only when the batch is committed.
    private static final int NOT_NUMBERED = 0;

    private final Row table = new Row(FULL_TABLE + MOST_IN_BATCH);
    private final Row aside = new Row(MOST_IN_BATCH);
    private final Level[] levels = new Level[LEVELS];
    private final Snapshots snapshots = new Snapshots();
    // Rows that calls use again, so that they need not make new ones each time.
    private final Row gathered = new Row(MOST_ENTRIES);
    private final Row kept = new Row(MOST_ENTRIES);
    private final Entry[] newestOfKey = new Entry[KEYS];

    // The log always has the table's entries in the order of their writing, so how many are safe says it all.
    private int safe = 0;
    private boolean inBatch = false;
    private int sequence = 0;
    private int probed = 0;
    private int probedInVain = 0;

    public RunKeeper() {
        for (int level = 0; level < LEVELS; level++) {
            levels[level] = new Level();
        }
    }

    public int put(int key, long v) throws IllegalArgumentException, IndexOutOfBoundsException {
        return write(key, v, false);
    }

    public int delete(int key) throws IllegalArgumentException, IndexOutOfBoundsException {
        return write(key, 0L, true);
    }

    public void batch() throws IllegalStateException {
        if (inBatch) {
            throw new IllegalStateException("a batch is begun");
        }
        inBatch = true;
    }

    public int end(boolean commit) throws IllegalStateException, IndexOutOfBoundsException {
        if (!inBatch) {
            throw new IllegalStateException("no batch is begun");
        }
        int writes = commit ? aside.size() : 0;
        if (entriesInAll() + writes > MOST_ENTRIES) {
            throw new IndexOutOfBoundsException("there would be too many entries");
        }
        for (int i = 0; i < writes; i++) {
            appendToTable(aside.at(i));
        }
        flushTableIfItHas(FULL_TABLE);
        dropBatch();
        return writes;
    }

    public int sync() {
        safe = table.size();
        return safe;
    }

    public int flush() {
        int had = table.size();
        flushTableIfItHas(1);
        return had;
    }

    public int merge(int n) throws IllegalArgumentException {
        if (n < 0 || n > MOST_STEPS) {
            throw new IllegalArgumentException("n");
        }
        int steps = 0;
        while (steps < n && mergeOnce()) {
            steps++;
        }
        return steps;
    }

    public int crash() {
        table.cutTo(safe);
        dropBatch();
        snapshots.forgetAll();
        gatherEverything();
        sequence = gathered.greatestSequence();
        return table.size();
    }

    public int snapshot() throws IndexOutOfBoundsException {
        int number = snapshots.leastFree();
        if (number < 0) {
            throw new IndexOutOfBoundsException("there are as many snapshots as can be");
        }
        snapshots.keep(number, sequence);
        return number;
    }

    public void release(int snapshot) throws IllegalArgumentException {
        if (!snapshots.has(snapshot)) {
            throw new IllegalArgumentException("snapshot");
        }
        snapshots.forget(snapshot);
    }

    public long get(int snapshot, int key) throws IllegalArgumentException, UnsupportedOperationException {
        requireKeyAndView(snapshot, key);
        Entry found = look(key, sequenceOf(snapshot));
        if (found == null || found.deleted) {
            throw new UnsupportedOperationException("the key has nothing");
        }
        return found.number;
    }

    public int next(int snapshot, int key) throws IllegalArgumentException {
        requireKeyAndView(snapshot, key);
        noteNewestOfKeys(sequenceOf(snapshot));
        for (int candidate = key; candidate < KEYS; candidate++) {
            Entry newest = newestOfKey[candidate];
            if (newest != null && !newest.deleted) {
                return candidate;
            }
        }
        return -1;
    }

    public int entry(int level, int r, int k, int what) throws IllegalArgumentException, IndexOutOfBoundsException {
        if (!isLevel(level) || what < 0 || what > 2) {
            throw new IllegalArgumentException("level or what");
        }
        Run run = levels[level].runAt(r);
        Entry found = run == null ? null : run.entries().at(k);
        if (found == null) {
            throw new IndexOutOfBoundsException("there is no such entry");
        }
        switch (what) {
            case 0: return found.key;
            case 1: return found.sequence;
            default: return found.deleted ? 1 : 0;
        }
    }

    public int count(int what, int k) throws IllegalArgumentException {
        if (what < 0 || what > 9 || (what <= 1 && !isLevel(k))) {
            throw new IllegalArgumentException("what or k");
        }
        switch (what) {
            case 0: return levels[k].runCount();
            case 1: return levels[k].entryCount();
            case 2: return table.size();
            case 3: return safe;
            case 4: return sequence;
            case 5: return probed;
            case 6: return probedInVain;
            case 7: return snapshots.taken();
            case 8: return inBatch ? aside.size() : -1;
            default: return entriesInAll();
        }
    }

    private static boolean isKey(int key) {
        return key >= 0 && key < KEYS;
    }

    private static boolean isLevel(int level) {
        return level >= 0 && level < LEVELS;
    }

    private int write(int key, long number, boolean deleted) {
        if (!isKey(key)) {
            throw new IllegalArgumentException("key");
        }
        if (inBatch ? aside.isFull() : entriesInAll() >= MOST_ENTRIES) {
            throw new IndexOutOfBoundsException("there are as many entries as can be");
        }
        Entry write = new Entry(key, NOT_NUMBERED, number, deleted);
        if (inBatch) {
            aside.add(write);
            return aside.size();
        }
        appendToTable(write);
        flushTableIfItHas(FULL_TABLE);
        return sequence;
    }

    private void appendToTable(Entry write) {
        if (write != null) {
            sequence++;
            table.add(write.numbered(sequence));
        }
    }

    private void dropBatch() {
        inBatch = false;
        aside.cutTo(0);
    }

    private void flushTableIfItHas(int least) {
        if (table.size() >= least) {
            table.sortAsRun();
            addRun(0, table);
            table.cutTo(0);
            safe = 0;
        }
    }

    // A run without entries is none.
    private void addRun(int level, Row sorted) {
        if (isLevel(level) && sorted.size() > 0) {
            levels[level].add(new Run(sorted));
        }
    }

    private int entriesInAll() {
        int all = table.size();
        for (int level = 0; level < LEVELS; level++) {
            all += levels[level].entryCount();
        }
        return all;
    }

    private void gatherEverything() {
        gathered.cutTo(0);
        gathered.addAll(table);
        for (int level = 0; level < LEVELS; level++) {
            levels[level].copyTo(gathered);
        }
    }

    private boolean mergeOnce() {
        int upper = leastLevelToMerge();
        if (upper < 0) {
            return false;
        }
        boolean nothingOlder = areEmptyFrom(upper + 1);
        gathered.cutTo(0);
        levels[upper].copyTo(gathered);
        gathered.sortAsRun();
        keepWhatIsSeen(nothingOlder);
        levels[upper].clear();
        addRun(upper + 1, kept);
        return true;
    }

    private int leastLevelToMerge() {
        for (int level = 0; level < LEVELS - 1; level++) {
            if (levels[level].runCount() >= RUNS_TO_MERGE) {
                return level;
            }
        }
        return -1;
    }

    private boolean areEmptyFrom(int first) {
        for (int level = first; level < LEVELS; level++) {
            if (levels[level].runCount() > 0) {
                return false;
            }
        }
        return true;
    }

    // The gathered entries stand in the order of a run, so that those of one key are next to each other.
    private void keepWhatIsSeen(boolean nothingOlder) {
        kept.cutTo(0);
        for (int i = 0; i < gathered.size(); i++) {
            Entry candidate = gathered.at(i);
            if (candidate != null && isSeen(candidate, gathered.at(i - 1))) {
                kept.add(candidate);
            }
            // Behind the last gathered entry of a key all that is kept of the key is known. The cut stays in
            // the key, as what is kept of the keys before ends with a number since their own cuts.
            if (nothingOlder && candidate != null && !candidate.hasKeyOf(gathered.at(i + 1))) {
                kept.cutDeletedTail();
            }
        }
    }

    // The newest of a key is always seen; an older one only by a snapshot from before the next newer one.
    private boolean isSeen(Entry candidate, Entry before) {
        if (before == null || !candidate.hasKeyOf(before)) {
            return true;
        }
        return snapshots.anyFromBelow(candidate.sequence, before.sequence);
    }

    private void requireKeyAndView(int snapshot, int key) {
        if (!isKey(key) || (snapshot != NOW && !snapshots.has(snapshot))) {
            throw new IllegalArgumentException("key or snapshot");
        }
    }

    private int sequenceOf(int snapshot) {
        return snapshot == NOW ? sequence : snapshots.sequenceAt(snapshot);
    }

    // The order is the document's, since count() tells of the runs that were probed on the way.
    private Entry look(int key, int asOf) {
        probed = 0;
        probedInVain = 0;
        Entry found = table.latestOf(key, asOf);
        for (int level = 0; found == null && level < LEVELS; level++) {
            found = lookInLevel(levels[level], key, asOf);
        }
        return found;
    }

    private Entry lookInLevel(Level level, int key, int asOf) {
        Entry found = null;
        for (int r = level.runCount() - 1; found == null && r >= 0; r--) {
            Run run = level.runAt(r);
            if (run != null && run.mayHave(key)) {
                found = probe(run, key, asOf);
            }
        }
        return found;
    }

    private Entry probe(Run run, int key, int asOf) {
        probed++;
        if (!run.entries().hasKey(key)) {
            probedInVain++;
        }
        return run.entries().latestOf(key, asOf);
    }

    private void noteNewestOfKeys(int asOf) {
        for (int key = 0; key < KEYS; key++) {
            newestOfKey[key] = null;
        }
        gatherEverything();
        for (int i = 0; i < gathered.size(); i++) {
            noteIfNewest(gathered.at(i), asOf);
        }
    }

    private void noteIfNewest(Entry candidate, int asOf) {
        if (candidate == null || candidate.sequence > asOf || !isKey(candidate.key)) {
            return;
        }
        Entry newest = newestOfKey[candidate.key];
        if (newest == null || newest.sequence < candidate.sequence) {
            newestOfKey[candidate.key] = candidate;
        }
    }

    /** A number that a key was given, or that the key was deleted. */
    private static final class Entry {
        private final int key;
        private final int sequence;
        private final long number;
        private final boolean deleted;

        Entry(int key, int sequence, long number, boolean deleted) {
            this.key = key;
            this.sequence = sequence;
            this.number = number;
            this.deleted = deleted;
        }

        Entry numbered(int newSequence) {
            return new Entry(key, newSequence, number, deleted);
        }

        boolean hasKeyOf(Entry other) {
            return other != null && key == other.key;
        }

        boolean standsBefore(Entry other) {
            return other != null && (key != other.key ? key < other.key : sequence > other.sequence);
        }
    }

    /** Entries one after the other, up to a number of them that is set when the row is made. */
    private static final class Row {
        private final Entry[] slots;
        private int size = 0;

        Row(int most) {
            slots = new Entry[most];
        }

        int size() {
            return size;
        }

        boolean isFull() {
            return size >= slots.length;
        }

        Entry at(int k) {
            return k >= 0 && k < size ? slots[k] : null;
        }

        void add(Entry added) {
            if (added != null && size < slots.length) {
                slots[size] = added;
                size++;
            }
        }

        void addAll(Row other) {
            for (int i = 0; i < other.size; i++) {
                add(other.slots[i]);
            }
        }

        void cutTo(int length) {
            if (length >= 0 && length < size) {
                size = length;
            }
        }

        void cutDeletedTail() {
            while (size > 0 && slots[size - 1].deleted) {
                size--;
            }
        }

        // By insertion: rows are short, and it needs no second row.
        void sortAsRun() {
            for (int i = 1; i < size; i++) {
                Entry moved = slots[i];
                int place = i;
                while (place > 0 && moved.standsBefore(slots[place - 1])) {
                    slots[place] = slots[place - 1];
                    place--;
                }
                slots[place] = moved;
            }
        }

        boolean hasKey(int key) {
            for (int i = 0; i < size; i++) {
                if (slots[i].key == key) {
                    return true;
                }
            }
            return false;
        }

        // All entries are looked at, since the table is in the order of writing and runs are by keys.
        Entry latestOf(int key, int asOf) {
            Entry latest = null;
            for (int i = 0; i < size; i++) {
                Entry candidate = slots[i];
                if (candidate.key == key && candidate.sequence <= asOf
                        && (latest == null || latest.sequence < candidate.sequence)) {
                    latest = candidate;
                }
            }
            return latest;
        }

        int greatestSequence() {
            int greatest = 0;
            for (int i = 0; i < size; i++) {
                greatest = Math.max(greatest, slots[i].sequence);
            }
            return greatest;
        }
    }

    /** Sorted entries on disk, never changed, with the filter that spares looking at them. */
    private static final class Run {
        private static final int BITS_OF_WORD = 64;
        private static final int ENTRIES_OF_WORD = 8;
        // 2654435761, 2246822519 and 3266489917, as the ints with the same 32 bits.
        private static final int[] FACTORS = {0x9E3779B1, 0x85EBCA77, 0xC2B2AE3D};

        private final Row entries;
        private final long[] filter;

        Run(Row sorted) {
            entries = new Row(sorted.size());
            entries.addAll(sorted);
            filter = new long[(sorted.size() + ENTRIES_OF_WORD - 1) / ENTRIES_OF_WORD];
            for (int i = 0; i < sorted.size(); i++) {
                setBits(filter, sorted.at(i));
            }
        }

        private static void setBits(long[] filter, Entry of) {
            for (int f = 0; of != null && f < FACTORS.length; f++) {
                int bit = bitOf(of.key, FACTORS[f], filter);
                filter[bit / BITS_OF_WORD] |= 1L << bit % BITS_OF_WORD;
            }
        }

        private static int bitOf(int key, int factor, long[] filter) {
            int bits = filter.length * BITS_OF_WORD;
            return bits == 0 ? 0 : (key * factor >>> 12) % bits;
        }

        Row entries() {
            return entries;
        }

        boolean mayHave(int key) {
            Entry first = entries.at(0);
            Entry last = entries.at(entries.size() - 1);
            return first != null && last != null && first.key <= key && key <= last.key && passesFilter(key);
        }

        private boolean passesFilter(int key) {
            for (int f = 0; f < FACTORS.length; f++) {
                int bit = bitOf(key, FACTORS[f], filter);
                if ((filter[bit / BITS_OF_WORD] >>> bit % BITS_OF_WORD & 1L) == 0L) {
                    return false;
                }
            }
            return true;
        }
    }

    /** A row of runs, the latest last. */
    private static final class Level {
        private final ArrayList<Run> runs = new ArrayList<Run>();
        private int entryCount = 0;

        int runCount() {
            return runs.size();
        }

        int entryCount() {
            return entryCount;
        }

        Run runAt(int r) {
            return r >= 0 && r < runs.size() ? runs.get(r) : null;
        }

        void add(Run latest) {
            runs.add(latest);
            entryCount += latest.entries().size();
        }

        void copyTo(Row row) {
            for (int r = 0; r < runs.size(); r++) {
                row.addAll(runs.get(r).entries());
            }
        }

        void clear() {
            runs.clear();
            entryCount = 0;
        }
    }

    /** The snapshots by their numbers, each with the sequence that it is of. */
    private static final class Snapshots {
        private final int[] sequences = new int[MOST_SNAPSHOTS];
        private final boolean[] used = new boolean[MOST_SNAPSHOTS];

        boolean has(int number) {
            return number >= 0 && number < MOST_SNAPSHOTS && used[number];
        }

        int leastFree() {
            for (int number = 0; number < MOST_SNAPSHOTS; number++) {
                if (!used[number]) {
                    return number;
                }
            }
            return -1;
        }

        void keep(int number, int sequence) {
            if (number >= 0 && number < MOST_SNAPSHOTS) {
                sequences[number] = sequence;
                used[number] = true;
            }
        }

        void forget(int number) {
            if (has(number)) {
                used[number] = false;
            }
        }

        void forgetAll() {
            for (int number = 0; number < MOST_SNAPSHOTS; number++) {
                used[number] = false;
            }
        }

        int sequenceAt(int number) {
            return has(number) ? sequences[number] : 0;
        }

        int taken() {
            int taken = 0;
            for (int number = 0; number < MOST_SNAPSHOTS; number++) {
                taken += used[number] ? 1 : 0;
            }
            return taken;
        }

        boolean anyFromBelow(int from, int below) {
            for (int number = 0; number < MOST_SNAPSHOTS; number++) {
                if (used[number] && from <= sequences[number] && sequences[number] < below) {
                    return true;
                }
            }
            return false;
        }
    }
}
