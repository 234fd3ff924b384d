/** Brings objects into a state that a test starts from. */
final class Fill {
    private Fill() {
    }

    /** Puts the keys from one on, one write each, with the key's own number. */
    static void putKeys(RunKeeper x, int from, int howMany) {
        for (int key = from; key < from + howMany; key++) {
            x.put(key, key);
        }
    }

    /** Puts each key and flushes it, so that each has a run of its own. */
    static void putRuns(RunKeeper x, int... keys) {
        for (int key : keys) {
            x.put(key, key);
            x.flush();
        }
    }

    /** Deletes each key and flushes it, so that each has a run of its own. */
    static void deleteRuns(RunKeeper x, int... keys) {
        for (int key : keys) {
            x.delete(key);
            x.flush();
        }
    }

    /** An object with so many entries; with 600 it has had more than the 512 calls that are spoken of. */
    static RunKeeper withEntries(int howMany) {
        RunKeeper x = new RunKeeper();
        putKeys(x, 0, howMany);
        return x;
    }

    /** Begins a batch and puts the keys from one on in it. */
    static void batchOf(RunKeeper x, int from, int howMany) {
        x.batch();
        putKeys(x, from, howMany);
    }

    /** Numbers that are no more in a range: next to it, far from it, and the least and the greatest int. */
    static int[] outside(int least, int greatest) {
        return new int[] {least - 1, least - 2, greatest + 1, greatest + 2, -65536, 65536, 1 << 30,
            Integer.MIN_VALUE, Integer.MIN_VALUE + 1, Integer.MAX_VALUE - 1, Integer.MAX_VALUE};
    }

    /** The keys 100, 200 .. 800 in the table: eight entries, so that the filter of their run has 64 bits. */
    static RunKeeper hundreds() {
        RunKeeper x = new RunKeeper();
        for (int key = 100; key <= 800; key += 100) {
            x.put(key, key);
        }
        return x;
    }

    /** A run of a level as text: key:sequence of each entry, with a minus before it if it is deleted. */
    static String run(RunKeeper x, int level, int r) {
        StringBuilder text = new StringBuilder();
        int size = r < x.count(0, level) ? x.count(1, level) : 0;
        for (int k = 0; k < size; k++) {
            try {
                String sign = x.entry(level, r, k, 2) == 1 ? "-" : "";
                text.append(k == 0 ? "" : " ").append(sign);
                text.append(x.entry(level, r, k, 0)).append(':').append(x.entry(level, r, k, 1));
            } catch (IndexOutOfBoundsException e) {
                break;
            }
        }
        return text.toString();
    }
}
