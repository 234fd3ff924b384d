import java.util.ArrayList;
import java.util.BitSet;
import java.util.Comparator;
import java.util.List;
import java.util.SortedSet;
import java.util.TreeMap;
import java.util.TreeSet;

/** The document written down once more, as near to its words and as far from RunKeeper's ways as can be. */
final class Model {
    private record Item(int key, int sequence, long number, boolean deleted) {
    }

    private static final long[] FACTORS = {2654435761L, 2246822519L, 3266489917L};

    private List<Item> table = new ArrayList<>();
    private List<Item> log = new ArrayList<>();
    private int safe = 0;
    private final List<List<List<Item>>> levels = new ArrayList<>();
    private List<Item> batch = null;
    private final TreeMap<Integer, Integer> snapshots = new TreeMap<>();
    private int latest = 0;
    private int probed = 0;
    private int probedInVain = 0;

    Model() {
        for (int level = 0; level <= 5; level++) {
            levels.add(new ArrayList<>());
        }
    }

    int put(int key, long v) {
        return write(key, v, false);
    }

    int delete(int key) {
        return write(key, 0, true);
    }

    private int write(int key, long v, boolean deleted) {
        need(key >= 0 && key <= 1023);
        if (batch != null) {
            bound(batch.size() < 16);
            batch.add(new Item(key, -1, v, deleted));
            return batch.size();
        }
        bound(everything().size() < 600);
        Item done = record(key, v, deleted);
        flushIf(table.size() >= 24);
        return done.sequence();
    }

    private Item record(int key, long v, boolean deleted) {
        latest++;
        Item item = new Item(key, latest, v, deleted);
        table.add(item);
        log.add(item);
        return item;
    }

    private void flushIf(boolean due) {
        if (due) {
            List<Item> run = new ArrayList<>(table);
            run.sort(Comparator.comparingInt(Item::key).thenComparing(Item::sequence, Comparator.reverseOrder()));
            levels.get(0).add(run);
            table = new ArrayList<>();
            log = new ArrayList<>();
            safe = 0;
        }
    }

    void batch() {
        state(batch == null);
        batch = new ArrayList<>();
    }

    int end(boolean commit) {
        state(batch != null);
        List<Item> ended = batch;
        if (!commit) {
            batch = null;
            return 0;
        }
        bound(everything().size() + ended.size() <= 600);
        for (Item item : ended) {
            record(item.key(), item.number(), item.deleted());
        }
        batch = null;
        flushIf(table.size() >= 24);
        return ended.size();
    }

    int sync() {
        safe = log.size();
        return log.size();
    }

    int flush() {
        int had = table.size();
        flushIf(had > 0);
        return had;
    }

    int merge(int n) {
        need(n >= 0 && n <= 100);
        for (int done = 0; done < n; done++) {
            if (!step()) {
                return done;
            }
        }
        return n;
    }

    private boolean step() {
        for (int level = 0; level < 5; level++) {
            if (levels.get(level).size() >= 4) {
                List<Item> all = new ArrayList<>();
                levels.get(level).forEach(all::addAll);
                boolean empty = levels.subList(level + 1, 6).stream().allMatch(List::isEmpty);
                List<Item> run = new ArrayList<>();
                SortedSet<Integer> keys = new TreeSet<>();
                all.forEach(item -> keys.add(item.key()));
                keys.forEach(key -> run.addAll(keptOf(key, all, empty)));
                levels.get(level).clear();
                if (!run.isEmpty()) {
                    levels.get(level + 1).add(run);
                }
                return true;
            }
        }
        return false;
    }

    private List<Item> keptOf(int key, List<Item> all, boolean empty) {
        TreeMap<Integer, Item> kept = new TreeMap<>(Comparator.reverseOrder());
        Item greatest = asOf(all, key, Integer.MAX_VALUE);
        kept.put(greatest.sequence(), greatest);
        for (int sequence : snapshots.values()) {
            Item seen = asOf(all, key, sequence);
            if (seen != null) {
                kept.put(seen.sequence(), seen);
            }
        }
        while (empty && !kept.isEmpty() && kept.lastEntry().getValue().deleted()) {
            kept.pollLastEntry();
        }
        return new ArrayList<>(kept.values());
    }

    int crash() {
        log = new ArrayList<>(log.subList(0, safe));
        table = new ArrayList<>(log);
        snapshots.clear();
        batch = null;
        latest = everything().stream().mapToInt(Item::sequence).max().orElse(0);
        return table.size();
    }

    int snapshot() {
        bound(snapshots.size() < 6);
        int number = 0;
        while (snapshots.containsKey(number)) {
            number++;
        }
        snapshots.put(number, latest);
        return number;
    }

    void release(int snapshot) {
        need(snapshots.containsKey(snapshot));
        snapshots.remove(snapshot);
    }

    long get(int snapshot, int key) {
        int sequence = view(snapshot, key);
        countProbes(key, sequence);
        Item item = asOf(everything(), key, sequence);
        if (item == null || item.deleted()) {
            throw new UnsupportedOperationException();
        }
        return item.number();
    }

    int next(int snapshot, int key) {
        int sequence = view(snapshot, key);
        for (int each = key; each <= 1023; each++) {
            Item item = asOf(everything(), each, sequence);
            if (item != null && !item.deleted()) {
                return each;
            }
        }
        return -1;
    }

    int entry(int level, int r, int k, int what) {
        need(level >= 0 && level <= 5 && what >= 0 && what <= 2);
        bound(r >= 0 && r < levels.get(level).size());
        List<Item> run = levels.get(level).get(r);
        bound(k >= 0 && k < run.size());
        Item item = run.get(k);
        return what == 0 ? item.key() : what == 1 ? item.sequence() : item.deleted() ? 1 : 0;
    }

    int count(int what, int k) {
        need(what >= 0 && what <= 9);
        need(what > 1 || (k >= 0 && k <= 5));
        return switch (what) {
            case 0 -> levels.get(k).size();
            case 1 -> levels.get(k).stream().mapToInt(List::size).sum();
            case 2 -> table.size();
            case 3 -> safe;
            case 4 -> latest;
            case 5 -> probed;
            case 6 -> probedInVain;
            case 7 -> snapshots.size();
            case 8 -> batch == null ? -1 : batch.size();
            default -> everything().size();
        };
    }

    private int view(int snapshot, int key) {
        need(key >= 0 && key <= 1023);
        need(snapshot == -1 || snapshots.containsKey(snapshot));
        return snapshot == -1 ? latest : snapshots.get(snapshot);
    }

    private void countProbes(int key, int sequence) {
        probed = 0;
        probedInVain = 0;
        if (asOf(table, key, sequence) != null) {
            return;
        }
        for (List<List<Item>> level : levels) {
            for (int r = level.size() - 1; r >= 0; r--) {
                List<Item> run = level.get(r);
                if (isProbed(run, key)) {
                    probed++;
                    probedInVain += asOf(run, key, Integer.MAX_VALUE) == null ? 1 : 0;
                }
                if (asOf(run, key, sequence) != null) {
                    return;
                }
            }
        }
    }

    private static boolean isProbed(List<Item> run, int key) {
        int least = run.stream().mapToInt(Item::key).min().orElse(1024);
        int greatest = run.stream().mapToInt(Item::key).max().orElse(-1);
        int bits = 8 * run.size();
        while (bits % 64 != 0) {
            bits++;
        }
        BitSet filter = new BitSet(bits);
        for (Item item : run) {
            filter.or(bitsOf(item.key(), bits));
        }
        BitSet wanted = bitsOf(key, bits);
        wanted.andNot(filter);
        return key >= least && key <= greatest && wanted.isEmpty();
    }

    private static BitSet bitsOf(int key, int bits) {
        BitSet set = new BitSet(bits);
        for (long factor : FACTORS) {
            set.set((int) ((key * factor % (1L << 32) / 4096) % bits));
        }
        return set;
    }

    private List<Item> everything() {
        List<Item> all = new ArrayList<>(table);
        levels.forEach(level -> level.forEach(all::addAll));
        return all;
    }

    private static Item asOf(List<Item> items, int key, int sequence) {
        Item best = null;
        for (Item item : items) {
            if (item.key() == key && item.sequence() <= sequence && (best == null || item.sequence() > best.sequence())) {
                best = item;
            }
        }
        return best;
    }

    private static void need(boolean holds) {
        if (!holds) {
            throw new IllegalArgumentException();
        }
    }

    private static void bound(boolean holds) {
        if (!holds) {
            throw new IndexOutOfBoundsException();
        }
    }

    private static void state(boolean holds) {
        if (!holds) {
            throw new IllegalStateException();
        }
    }
}
