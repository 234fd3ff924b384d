import java.math.BigInteger;
import java.util.HashSet;
import java.util.Set;

/** Terms 4, looking for a key, and what promise 15 tells of it, sentence by sentence. */
public final class ProbingEdgesTest extends Edges {
    private static final String[] FACTORS = {"2654435761", "2246822519", "3266489917"};
    private static final BigInteger TWO_TO_32 = BigInteger.ONE.shiftLeft(32);

    public static void main(String[] args) {
        ProbingEdgesTest test = new ProbingEdgesTest();
        test.run(
                test::theTableIsFirst,
                test::theLatestRunOfTheLeastLevelIsFirst,
                test::lookingGoesOnBehindLaterSequences,
                test::lookingEndsAtADeletedEntry,
                test::theKeyIsFromTheLeastToTheGreatest,
                test::theKeyIsFromTheLeastToTheGreatestOfOne,
                test::theFilterHasTheKey,
                test::eightBitsForEachEntryUpToAMultipleOf64,
                test::severalEntriesOfOneKeyCountEach,
                test::eachOfTheThreeBitsIsWanted,
                test::theBitsOfAllKeysAreSet,
                test::theLowest32BitsAreTaken,
                test::bitsAreMovedWithoutSign,
                test::nothingIsProbedBeforeTheFirstGet,
                test::aGetOfNothingCounts,
                test::aRefusedGetDoesNotCount,
                test::onlyGetCounts,
                test::aCrashIsNoGet,
                test::inVainMeansOfWhateverSequence);
    }

    private void theTableIsFirst() {
        due.by("THE TABLE first, then the RUNS");
        RunKeeper x = new RunKeeper();
        Fill.putRuns(x, 1, 1);
        x.put(1, 30);
        due.is(30, () -> x.get(-1, 1));
        isProbed(x, 0, 0);
        x.delete(1);
        due.refuses(NOTHING, () -> x.get(-1, 1));
        isProbed(x, 0, 0);
        x.flush();
        due.refuses(NOTHING, () -> x.get(-1, 1));
        isProbed(x, 1, 0);
    }

    private void theLatestRunOfTheLeastLevelIsFirst() {
        due.by("then the RUNS, LEVEL by LEVEL, in each the latest first");
        RunKeeper x = new RunKeeper();
        for (int i = 0; i < 2; i++) {
            Fill.putRuns(x, 6, 5, 5, 5);
            x.merge(1);
            x.snapshot();
        }
        for (int i = 0; i < 2; i++) {
            Fill.putRuns(x, 5);
            x.snapshot();
        }
        // Two runs of level 1 and two of level 0 have the key; the older the snapshot, the more are probed.
        for (int number = 0; number < 4; number++) {
            int asked = number;
            due.is(5, () -> x.get(asked, 5));
            isProbed(x, 4 - number, 0);
        }
        due.is(5, () -> x.get(-1, 5));
        isProbed(x, 1, 0);
        due.is(6, () -> x.get(0, 6));
        isProbed(x, 2, 0);
        due.is(6, () -> x.get(-1, 6));
        isProbed(x, 1, 0);
    }

    private void lookingGoesOnBehindLaterSequences() {
        due.by("until one has an ENTRY of the key with a SEQUENCE up to that");
        RunKeeper x = new RunKeeper();
        x.snapshot();
        x.put(1, 10);
        x.flush();
        x.snapshot();
        x.put(1, 20);
        x.snapshot();
        x.put(1, 21);
        x.flush();
        x.put(1, 30);
        x.flush();
        x.put(1, 40);
        due.is(40, () -> x.get(-1, 1));
        isProbed(x, 0, 0);
        due.is(20, () -> x.get(2, 1));
        isProbed(x, 2, 0);
        due.is(10, () -> x.get(1, 1));
        isProbed(x, 3, 0);
        due.refuses(NOTHING, () -> x.get(0, 1));
        isProbed(x, 3, 0);
    }

    private void lookingEndsAtADeletedEntry() {
        due.by("until one has an ENTRY of the key with a SEQUENCE up to that");
        RunKeeper x = new RunKeeper();
        Fill.putRuns(x, 1, 1);
        Fill.deleteRuns(x, 1);
        due.refuses(NOTHING, () -> x.get(-1, 1));
        isProbed(x, 1, 0);
        x.snapshot();
        Fill.putRuns(x, 1);
        due.refuses(NOTHING, () -> x.get(0, 1));
        isProbed(x, 2, 0);
    }

    private static RunKeeper flushedHundreds() {
        RunKeeper x = Fill.hundreds();
        x.flush();
        return x;
    }

    private void theKeyIsFromTheLeastToTheGreatest() {
        due.by("if the key is from its least to its greatest key");
        RunKeeper x = flushedHundreds();
        due.is(100, () -> x.get(-1, 100));
        isProbed(x, 1, 0);
        due.is(800, () -> x.get(-1, 800));
        isProbed(x, 1, 0);
        // The filter has all bits of these.
        for (int key : new int[] {0, 17, 18, 815, 822, 1006}) {
            due.refuses(NOTHING, () -> x.get(-1, key));
            isProbed(x, 0, 0);
        }
    }

    private void theKeyIsFromTheLeastToTheGreatestOfOne() {
        due.by("if the key is from its least to its greatest key");
        for (int key : new int[] {0, 1, 511, 1022, 1023}) {
            for (int asked = 0; asked <= 1023; asked++) {
                int other = asked;
                RunKeeper x = new RunKeeper();
                Fill.putRuns(x, key);
                Due.answerOf(() -> x.get(-1, other));
                isProbed(x, other == key ? 1 : 0, 0);
            }
        }
    }

    /** The bits of a key, reckoned with numbers that know neither a sign nor 32 bits by themselves. */
    private static Set<Integer> bitsOf(int key, int bits) {
        Set<Integer> set = new HashSet<>();
        for (String factor : FACTORS) {
            BigInteger lowest = BigInteger.valueOf(key).multiply(new BigInteger(factor)).mod(TWO_TO_32);
            set.add(lowest.shiftRight(12).mod(BigInteger.valueOf(bits)).intValueExact());
        }
        return set;
    }

    private static boolean mayHave(int[] keys, int key) {
        int bits = (keys.length * 8 + 63) / 64 * 64;
        Set<Integer> filter = new HashSet<>();
        for (int each : keys) {
            filter.addAll(bitsOf(each, bits));
        }
        return filter.containsAll(bitsOf(key, bits));
    }

    private static boolean isOneOf(int key, int... keys) {
        for (int each : keys) {
            if (each == key) {
                return true;
            }
        }
        return false;
    }

    /** One run of these keys; up to 39, as a batch on top of 23 writes makes the greatest one that is flushed. */
    private static RunKeeper runOf(int... keys) {
        RunKeeper x = new RunKeeper();
        for (int i = 0; i < keys.length; i++) {
            if (i == 23) {
                x.batch();
            }
            x.put(keys[i], 1);
        }
        if (keys.length > 23) {
            x.end(true);
        }
        x.flush();
        return x;
    }

    /** Asks one run for every key there is; each time a new object, as one has 512 calls. */
    private void probesByTheFilter(int... keys) {
        due.is(1, () -> runOf(keys).count(0, 0));
        for (int key = 0; key <= 1023; key++) {
            int asked = key;
            RunKeeper x = runOf(keys);
            boolean there = isOneOf(key, keys);
            due.same(there ? "1" : "throws.UnsupportedOperationException", Due.answerOf(() -> x.get(-1, asked)));
            boolean probed = mayHave(keys, key);
            isProbed(x, probed ? 1 : 0, probed && !there ? 1 : 0);
        }
    }

    /** So many keys, from 0 to 1023. */
    private static int[] spread(int howMany) {
        int[] keys = new int[howMany];
        for (int i = 0; i < howMany; i++) {
            keys[i] = i * 1023 / (howMany - 1);
        }
        return keys;
    }

    private void theFilterHasTheKey() {
        due.by("and its FILTER has it");
        // Written out, so that the sentence does not rest on mayHave() alone.
        for (int key : new int[] {114, 117, 152, 222, 306, 343, 344, 394, 472, 506, 540, 666, 693, 726}) {
            RunKeeper x = flushedHundreds();
            due.refuses(NOTHING, () -> x.get(-1, key));
            isProbed(x, 1, 1);
        }
        for (int key : new int[] {101, 113, 115, 116, 118, 151, 153, 401, 499, 799}) {
            RunKeeper x = flushedHundreds();
            due.refuses(NOTHING, () -> x.get(-1, key));
            isProbed(x, 0, 0);
        }
    }

    private void eightBitsForEachEntryUpToAMultipleOf64() {
        due.by("8 for each ENTRY (several of one key each) up to a multiple of 64");
        for (int size : new int[] {2, 7, 8, 9, 15, 16, 17, 23, 24, 25, 39}) {
            probesByTheFilter(spread(size));
        }
    }

    private void severalEntriesOfOneKeyCountEach() {
        due.by("8 for each ENTRY (several of one key each)");
        probesByTheFilter(0, 150, 300, 450, 600, 750, 900, 1023, 1023);
        probesByTheFilter(0, 1023, 512, 512, 512, 512, 512, 512, 512, 512, 512, 512, 512, 512, 512, 512, 512, 512);
    }

    private void eachOfTheThreeBitsIsWanted() {
        due.by("bits of a key: (key * a >>> 12) % how many bits, with a 2654435761, 2246822519, 3266489917");
        // The filter of the hundreds has two bits of each of these, and lacks the third.
        int[] firstIsLacking = {109, 128, 145, 153, 181, 209};
        int[] secondIsLacking = {106, 112, 156, 180, 184, 211};
        int[] thirdIsLacking = {113, 119, 160, 190, 198, 213};
        for (int[] keys : new int[][] {firstIsLacking, secondIsLacking, thirdIsLacking}) {
            for (int key : keys) {
                RunKeeper x = flushedHundreds();
                due.refuses(NOTHING, () -> x.get(-1, key));
                isProbed(x, 0, 0);
            }
        }
    }

    private void theBitsOfAllKeysAreSet() {
        due.by("the bits of all its keys are set");
        int[] keys = spread(39);
        RunKeeper x = runOf(keys);
        for (int key : keys) {
            due.is(1, () -> x.get(-1, key));
            isProbed(x, 1, 0);
        }
    }

    private void theLowest32BitsAreTaken() {
        due.by("of the product the lowest 32 bits are taken");
        // 192 and 320 bits: of a power of two the higher bits of the product would not matter.
        probesByTheFilter(spread(20));
        probesByTheFilter(spread(36));
    }

    private void bitsAreMovedWithoutSign() {
        due.by("and moved without sign");
        // Of key 1 all three products have the highest of their 32 bits; 192 bits, as above.
        probesByTheFilter(0, 1, 2, 3, 4, 5, 6, 7, 8, 9, 10, 11, 12, 13, 14, 15, 1022, 1023);
        probesByTheFilter(0, 1023);
    }

    private void nothingIsProbedBeforeTheFirstGet() {
        due.by("0 before the first");
        RunKeeper x = new RunKeeper();
        isProbed(x, 0, 0);
        Fill.putRuns(x, 1, 2, 3, 4);
        x.next(-1, 0);
        x.merge(1);
        isProbed(x, 0, 0);
        due.refuses(ARGUMENT, () -> x.get(-1, 1024));
        isProbed(x, 0, 0);
    }

    private void aGetOfNothingCounts() {
        due.by("of one that threw UnsupportedOperationException, too");
        RunKeeper x = flushedHundreds();
        due.is(200, () -> x.get(-1, 200));
        isProbed(x, 1, 0);
        due.refuses(NOTHING, () -> x.get(-1, 114));
        isProbed(x, 1, 1);
        due.refuses(NOTHING, () -> x.get(-1, 0));
        isProbed(x, 0, 0);
        Fill.deleteRuns(x, 300);
        due.refuses(NOTHING, () -> x.get(-1, 300));
        isProbed(x, 1, 0);
    }

    private void aRefusedGetDoesNotCount() {
        due.by("but not of one that threw IllegalArgumentException");
        RunKeeper x = flushedHundreds();
        x.snapshot();
        due.refuses(NOTHING, () -> x.get(-1, 114));
        for (int wrong : Fill.outside(-1, 1023)) {
            due.refuses(ARGUMENT, () -> x.get(wrong, 100));
            isProbed(x, 1, 1);
        }
        for (int wrong : Fill.outside(0, 1023)) {
            due.refuses(ARGUMENT, () -> x.get(0, wrong));
            isProbed(x, 1, 1);
        }
        due.refuses(ARGUMENT, () -> x.get(1, 0));
        isProbed(x, 1, 1);
    }

    private void onlyGetCounts() {
        due.by("RUNS that the latest get() PROBED");
        RunKeeper x = flushedHundreds();
        due.refuses(NOTHING, () -> x.get(-1, 114));
        x.next(-1, 200);
        x.put(1, 1);
        x.sync();
        x.flush();
        x.snapshot();
        x.release(0);
        x.batch();
        x.delete(100);
        x.end(true);
        Fill.putRuns(x, 1, 1, 1);
        x.merge(1);
        x.entry(1, 0, 0, 0);
        isProbed(x, 1, 1);
        due.is(200, () -> x.get(-1, 200));
        isProbed(x, 1, 0);
    }

    private void aCrashIsNoGet() {
        due.by("RUNS that the latest get() PROBED");
        RunKeeper x = flushedHundreds();
        due.refuses(NOTHING, () -> x.get(-1, 114));
        x.crash();
        isProbed(x, 1, 1);
        x.put(7, 7);
        due.is(7, () -> x.get(-1, 7));
        x.crash();
        isProbed(x, 0, 0);
    }

    private void inVainMeansOfWhateverSequence() {
        due.by("those that it PROBED and found no ENTRY of the key in, of whatever SEQUENCE");
        RunKeeper x = new RunKeeper();
        x.snapshot();
        Fill.putRuns(x, 114);
        for (int key = 100; key <= 800; key += 100) {
            x.put(key, key);
        }
        x.flush();
        // The run of the hundreds has no entry of 114, the one below has one, but too late for the snapshot.
        due.refuses(NOTHING, () -> x.get(0, 114));
        isProbed(x, 2, 1);
        due.is(114, () -> x.get(-1, 114));
        isProbed(x, 2, 1);
        due.refuses(NOTHING, () -> x.get(0, 100));
        isProbed(x, 1, 0);
    }
}
