import java.util.NoSuchElementException;

/** Each promise of the document by its own, with numbers that were reckoned by hand. */
public final class PromiseTest {
    private static final Class<IllegalArgumentException> ILLEGAL = IllegalArgumentException.class;
    private static final Class<UnsupportedOperationException> UNSUPPORTED = UnsupportedOperationException.class;
    private static final Class<IndexOutOfBoundsException> OUTSIDE = IndexOutOfBoundsException.class;
    private static final Class<NoSuchElementException> NO_SUCH = NoSuchElementException.class;
    private static final int UPPER = 96 * 32;

    public static void main(String[] args) {
        aNewObject();
        put();
        set();
        drop();
        forget();
        commitOfOneBlock();
        commitOfManyBlocks();
        commitOfSameKeyTwice();
        commitMakesTheLogAnew();
        commitAnewPutsEightInAnEntry();
        commitAnewOfNothing();
        commitAnewGoesBack();
        commitEpochAnew();
        commitRefusedForSpace();
        commitRefusedForEpoch();
        commitRevivesOldBlocks();
        crashWrong();
        crashInABatch();
        crashInBytes();
        crashWhileAnew();
        spoilWrong();
        spoilOfHeads();
        spoilOfBlocks();
        spoilOfBytesBehind();
        spoilOfEntries();
        size();
        get();
        disk();
        about();
        Check.end();
    }

    private static void dueAbout(String when, BlockLog x, int... want) {
        for (int what = 0; what < want.length; what++) {
            Check.due(when + ": about(" + what + ")", x.about(what), want[what]);
        }
    }

    private static void dueDisk(String when, BlockLog x, int from, int... want) {
        for (int i = 0; i < want.length; i++) {
            Check.due(when + ": disk(" + (from + i) + ")", x.disk(from + i), want[i]);
        }
    }

    private static int[] diskOf(BlockLog x) {
        int[] all = new int[6144];
        for (int k = 0; k < all.length; k++) {
            all[k] = x.disk(k);
        }
        return all;
    }

    /** The key's value becomes so many bytes: first, first + 1, .. */
    private static void setBytes(BlockLog x, int key, int many, int first) {
        for (int i = 0; i < many; i++) {
            x.put(1, first + i);
        }
        x.set(key);
    }

    private static void mendSum(BlockLog x, int block) {
        int sum = 0;
        for (int i = 0; i < 32; i++) {
            sum += i == 3 ? 0 : x.disk(32 * block + i) * (i + 1);
        }
        x.spoil(32 * block + 3, sum & 255);
    }

    /** Commits of one block each, until the log has so many; none of them leaves a value. */
    private static void fillWithDrops(BlockLog x, int blocks) {
        for (int i = x.about(2); i < blocks; i++) {
            x.drop(199);
            x.commit();
        }
    }

    private static int spoilt(BlockLog x, int at, int v) {
        x.spoil(at, v);
        return 0;
    }

    private static void aNewObject() {
        BlockLog x = new BlockLog();
        dueAbout("a new object", x, 0, 1, 0, 0, 0, 0, 0, 0, 0);
        dueDisk("a new object", x, 0, 1, 0, 72, 217);
        for (int k = 4; k < 6144; k++) {
            Check.due("a new object: disk(" + k + ")", x.disk(k), 0);
        }
        for (int key = 0; key < 200; key++) {
            Check.due("a new object: size(" + key + ")", x.size(key), BlockLog.NONE);
        }
    }

    private static void put() {
        BlockLog x = new BlockLog();
        for (int many : new int[] {Integer.MIN_VALUE, -1, 0, 5, Integer.MAX_VALUE}) {
            Check.dueThrow("put(" + many + ", 1)", ILLEGAL, () -> x.put(many, 1));
        }
        Check.due("put of 4", x.put(4, 0x84030201), 4);
        Check.due("put of 3", x.put(3, 0x7F070605), 7);
        Check.due("put of 2", x.put(2, -2), 9);
        Check.due("put of 1", x.put(1, 0x1FF), 10);
        for (int i = 10; i < 38; i += 4) {
            Check.due("put of 4 more", x.put(4, i), i + 4);
        }
        Check.dueThrow("put beyond 40", UNSUPPORTED, () -> x.put(3, 1));
        Check.dueThrow("put of 5 beyond 40", ILLEGAL, () -> x.put(5, 1));
        Check.due("what a put that throws leaves", x.about(8), 38);
        Check.due("put up to 40", x.put(2, 0x0102), 40);
        Check.dueThrow("put of 1 beyond 40", UNSUPPORTED, () -> x.put(1, 1));
        x.set(0);
        x.commit();
        int[] want = {1, 2, 3, 0x84, 5, 6, 7, 254, 255, 255, 10, 0, 0, 0};
        for (int k = 0; k < want.length; k++) {
            Check.due("get(0, " + k + ")", x.get(0, k), want[k]);
        }
        Check.due("get(0, 38)", x.get(0, 38), 2);
        Check.due("get(0, 39)", x.get(0, 39), 1);
    }

    private static void set() {
        BlockLog x = new BlockLog();
        x.put(2, 7);
        for (int key : new int[] {Integer.MIN_VALUE, -1, 200, Integer.MAX_VALUE}) {
            Check.dueThrow("set(" + key + ")", ILLEGAL, () -> x.set(key));
        }
        dueAbout("behind set() that throws", x, 0, 1, 0, 0, 0, 0, 0, 0, 2);
        Check.due("set(0)", x.set(0), 1);
        dueAbout("behind set(0)", x, 0, 1, 0, 0, 0, 0, 0, 1, 0);
        for (int i = 2; i <= 8; i++) {
            Check.due("set(199)", x.set(199), i);
        }
        x.put(1, 1);
        Check.dueThrow("a 9th set", UNSUPPORTED, () -> x.set(5));
        Check.dueThrow("a 9th set without a key", ILLEGAL, () -> x.set(200));
        dueAbout("behind a 9th set", x, 0, 1, 0, 0, 0, 0, 0, 8, 1);
        Check.due("a set before its commit", x.size(0), BlockLog.NONE);
        x.commit();
        Check.due("a set behind its commit", x.size(0), 2);
        Check.due("a set of an empty value", x.size(199), 0);
        Check.due("a set that threw", x.size(5), BlockLog.NONE);
    }

    private static void drop() {
        BlockLog x = new BlockLog();
        setBytes(x, 5, 3, 1);
        x.commit();
        for (int key : new int[] {Integer.MIN_VALUE, -1, 200, Integer.MAX_VALUE}) {
            Check.dueThrow("drop(" + key + ")", ILLEGAL, () -> x.drop(key));
        }
        x.put(3, 1);
        Check.due("drop(5)", x.drop(5), 1);
        Check.due("drop of a key without a value", x.drop(6), 2);
        Check.due("a drop leaves the value at hand", x.about(8), 3);
        for (int i = 3; i <= 8; i++) {
            Check.due("drop(0)", x.drop(0), i);
        }
        Check.dueThrow("a 9th drop", UNSUPPORTED, () -> x.drop(0));
        Check.dueThrow("a 9th drop without a key", ILLEGAL, () -> x.drop(-1));
        Check.due("a drop before its commit", x.size(5), 3);
        x.commit();
        Check.due("a drop behind its commit", x.size(5), BlockLog.NONE);
        dueDisk("a drop", x, 64, 1, 0, 192 + 17, x.disk(67), 2, 0, 8, 5, 255, 6, 255, 0, 255);
    }

    private static void forget() {
        BlockLog x = new BlockLog();
        x.forget();
        setBytes(x, 1, 2, 3);
        x.drop(2);
        x.put(4, 4);
        x.forget();
        dueAbout("behind forget()", x, 0, 1, 0, 0, 0, 0, 0, 0, 0);
        Check.due("commit behind forget()", x.commit(), 0);
        Check.due("size behind forget()", x.size(1), BlockLog.NONE);
        setBytes(x, 1, 1, 9);
        x.commit();
        x.forget();
        Check.due("forget leaves what was committed", x.get(1, 0), 9);
    }

    private static void commitOfOneBlock() {
        BlockLog x = new BlockLog();
        x.put(2, 1);
        Check.due("commit of nothing", x.commit(), 0);
        dueAbout("behind commit of nothing", x, 0, 1, 0, 0, 0, 0, 0, 0, 2);
        x.forget();
        setBytes(x, 9, 23, 100);
        x.put(3, 1);
        Check.due("commit of 26 bytes", x.commit(), 1);
        dueAbout("a commit leaves the value at hand", x, 0, 1, 1, 1, 1, 1, 0, 0, 3);
        x.forget();
        // the sum: 1*1 + 218*3 + 1*5 + 1*7 + 9*8 + 23*9 and (100 + i) * (10 + i) for i = 0 .. 22
        int sum = 1 + 218 * 3 + 5 + 7 + 72 + 207;
        for (int i = 0; i < 23; i++) {
            sum += (100 + i) * (10 + i);
        }
        dueDisk("an entry of 26 bytes", x, 32, 1, 0, 218, sum & 255, 1, 0, 1, 9, 23, 100, 101);
        Check.due("its last byte", x.disk(63), 122);
        setBytes(x, 9, 24, 100);
        Check.due("commit of 27 bytes", x.commit(), 2);
        dueAbout("behind 27 bytes", x, 0, 1, 3, 2, 1, 3, 0, 0, 0);
        dueDisk("its first block", x, 64, 1, 0, 64 + 26, x.disk(67), 2, 0, 1, 9, 24, 100);
        dueDisk("its last block", x, 96, 1, 0, 128 + 1, 1 + 129 * 3 + 3 * 5 + 123 * 7 & 255, 3, 0, 123, 0, 0);
        Check.due("a value over two blocks", x.get(9, 23), 123);
    }

    private static void commitOfManyBlocks() {
        BlockLog x = new BlockLog();
        for (int i = 0; i < 8; i++) {
            setBytes(x, i, 40, i);
        }
        Check.due("commit of 337 bytes", x.commit(), 13);
        dueAbout("behind 337 bytes", x, 0, 1, 13, 1, 8, 13, 0, 0, 0);
        Check.due("its first block's count", x.disk(32 + 2), 64 + 26);
        for (int number = 2; number <= 12; number++) {
            Check.due("its middle block's count", x.disk(32 * number + 2), 26);
            Check.due("its middle block's number", x.disk(32 * number + 4), number);
        }
        Check.due("its last block's count", x.disk(32 * 13 + 2), 128 + 25);
        for (int i = 0; i < 8; i++) {
            Check.due("a long value's last byte", x.get(i, 39), i + 39);
        }
    }

    private static void commitOfSameKeyTwice() {
        BlockLog x = new BlockLog();
        setBytes(x, 1, 1, 5);
        setBytes(x, 1, 2, 7);
        setBytes(x, 2, 1, 5);
        x.drop(2);
        x.drop(3);
        setBytes(x, 3, 1, 8);
        x.commit();
        Check.due("the later value", x.get(1, 0), 7);
        Check.due("set, then dropped", x.size(2), BlockLog.NONE);
        Check.due("dropped, then set", x.get(3, 0), 8);
        Check.due("keys with a value", x.about(4), 2);
    }

    private static void commitMakesTheLogAnew() {
        BlockLog x = new BlockLog();
        setBytes(x, 150, 2, 11);
        setBytes(x, 20, 1, 33);
        x.commit();
        fillWithDrops(x, 95);
        dueAbout("a full half", x, 0, 1, 95, 95, 2, 95, 0, 0, 0);
        int[] before = diskOf(x);
        setBytes(x, 20, 1, 44);
        Check.due("commit into a full half", x.commit(), 3);
        dueAbout("behind it", x, 1, 2, 2, 2, 2, 98, 1, 0, 0);
        dueDisk("the new head", x, UPPER, 2, 0, 72, 218, 0);
        dueDisk("the values, by keys", x, UPPER + 32, 2, 0, 192 + 8, x.disk(UPPER + 35), 1, 0, 2, 20, 1, 33, 150, 2, 11, 12, 0);
        dueDisk("the batch", x, UPPER + 64, 2, 0, 192 + 4, x.disk(UPPER + 67), 2, 0, 1, 20, 1, 44, 0);
        Check.due("the batch's value", x.get(20, 0), 44);
        for (int k = 0; k < UPPER; k++) {
            Check.due("the old half: disk(" + k + ")", x.disk(k), before[k]);
        }
    }

    private static void commitAnewPutsEightInAnEntry() {
        BlockLog x = new BlockLog();
        for (int key = 0; key < 17; key++) {
            setBytes(x, 180 - key, 2, key);
            if (key % 8 == 7) {
                x.commit();
            }
        }
        x.commit();
        fillWithDrops(x, 94);
        setBytes(x, 3, 24, 1);
        // 8 * 4 + 1 = 33 bytes, twice, are two blocks each; then one of 5; the head; and the batch's two
        Check.due("commit with one block too few", x.commit(), 2 + 2 + 1 + 1 + 2);
        dueAbout("behind it", x, 1, 2, 7, 4, 18, x.about(5), 1, 0, 0);
        dueDisk("the 1st entry", x, UPPER + 34, 64 + 26, x.disk(UPPER + 35), 1, 0, 8, 164, 2, 16, 17, 165, 2, 15, 16);
        dueDisk("the 2nd entry", x, UPPER + 98, 64 + 26, x.disk(UPPER + 99), 3, 0, 8, 172, 2, 8, 9);
        dueDisk("the 3rd entry", x, UPPER + 162, 192 + 5, x.disk(UPPER + 163), 5, 0, 1, 180, 2, 0, 1, 0);
    }

    private static void commitAnewOfNothing() {
        BlockLog x = new BlockLog();
        fillWithDrops(x, 95);
        x.drop(0);
        Check.due("anew without a value", x.commit(), 2);
        dueAbout("behind it", x, 1, 2, 1, 1, 0, 97, 1, 0, 0);
    }

    private static void commitAnewGoesBack() {
        BlockLog x = new BlockLog();
        setBytes(x, 7, 1, 1);
        x.commit();
        fillWithDrops(x, 95);
        x.drop(0);
        x.commit();
        fillWithDrops(x, 95);
        x.drop(0);
        Check.due("anew in half 0", x.commit(), 3);
        dueAbout("behind it", x, 0, 3, 2, 2, 1, 95 + 3 + 93 + 3, 2, 0, 0);
        dueDisk("the head", x, 0, 3, 0, 72, 219);
        dueDisk("a block of before", x, 32 * 3, 1, 0);
        Check.due("the value", x.get(7, 0), 1);
    }

    private static void commitEpochAnew() {
        BlockLog x = new BlockLog();
        fillWithDrops(x, 95);
        x.spoil(UPPER + 32 * 95, 0xFE);
        x.spoil(UPPER + 32 * 95 + 1, 3);
        x.spoil(UPPER + 32 * 40 + 1, 3);
        x.drop(0);
        x.commit();
        Check.due("the epoch behind a last block's 1022", x.about(1), 1023);
        dueDisk("the head of 1023", x, UPPER, 255, 3, 72, 255 + 6 + 216 & 255);

        BlockLog y = new BlockLog();
        fillWithDrops(y, 95);
        y.spoil(UPPER + 1, 1);
        y.drop(0);
        y.commit();
        Check.due("the epoch behind a head's 256 that does not count", y.about(1), 257);
    }

    /** Keys 0 .. 54, of 40 bytes each: 7 batches of up to 8 in 13 blocks each, and of the last one 12. */
    private static BlockLog filledWithValues() {
        BlockLog x = new BlockLog();
        for (int key = 0; key < 55; key++) {
            setBytes(x, key, 40, key);
            if (key % 8 == 7) {
                x.commit();
            }
        }
        x.commit();
        return x;
    }

    private static void commitRefusedForSpace() {
        BlockLog x = filledWithValues();
        dueAbout("90 blocks", x, 0, 1, 90, 7, 55, 90, 0, 0, 0);
        for (int key = 100; key < 103; key++) {
            setBytes(x, key, 40, key);
        }
        Check.due("127 bytes more, as 5 blocks are there", x.commit(), 5);
        setBytes(x, 104, 4, 9);
        x.put(1, 1);
        int[] before = diskOf(x);
        // made anew: 6 entries of 337 bytes in 13 blocks, one of 337 in 13, and one of 2 * 42 + 1 in 4: 95
        Check.dueThrow("commit that does not fit", UNSUPPORTED, x::commit);
        Check.dueThrow("crash that does not fit", UNSUPPORTED, () -> x.crash(0, 0));
        dueAbout("behind refused ones", x, 0, 1, 95, 8, 58, 95, 0, 1, 1);
        for (int k = 0; k < before.length; k++) {
            Check.due("behind refused ones: disk(" + k + ")", x.disk(k), before[k]);
        }
        x.forget();
        x.drop(0);
        Check.dueThrow("commit of a drop that does not fit", UNSUPPORTED, x::commit);

        BlockLog y = filledWithValues();
        y.drop(0);
        y.drop(1);
        y.commit();
        fillWithDrops(y, 95);
        // made anew: 53 keys: 6 entries of 13 blocks, and one of 5 * 42 + 1 = 211 bytes in 9: 87, and 8 are left
        for (int key = 100; key < 104; key++) {
            setBytes(y, key, 40, key);
        }
        setBytes(y, 104, 38, 1);
        Check.due("a batch of 209 bytes for 8 blocks and one", Check.answerOf(y::commit), "throws.UnsupportedOperationException");
        y.forget();
        for (int key = 100; key < 104; key++) {
            setBytes(y, key, 40, key);
        }
        setBytes(y, 104, 37, 1);
        Check.due("a batch of 208 bytes for 8 blocks", y.commit(), 96);
        dueAbout("behind it", y, 1, 2, 95, 8, 58, 95 + 96, 1, 0, 0);
    }

    private static void commitRefusedForEpoch() {
        BlockLog x = new BlockLog();
        fillWithDrops(x, 94);
        x.spoil(UPPER + 32 * 7, 255);
        x.spoil(UPPER + 32 * 7 + 1, 255);
        x.drop(0);
        Check.due("no epoch is needed", x.commit(), 1);
        x.drop(0);
        Check.dueThrow("commit with epoch 65536", UNSUPPORTED, x::commit);
        Check.dueThrow("crash with epoch 65536", UNSUPPORTED, () -> x.crash(9, 0));
        dueAbout("behind them", x, 0, 1, 95, 95, 0, 95, 0, 1, 0);
        x.spoil(UPPER + 32 * 7, 254);
        Check.due("commit with epoch 65535", x.commit(), 2);
        dueAbout("behind it", x, 1, 65535, 1, 1, 0, 97, 1, 0, 0);
        fillWithDrops(x, 95);
        x.drop(0);
        Check.dueThrow("commit behind the live epoch 65535", UNSUPPORTED, x::commit);
    }

    private static void commitRevivesOldBlocks() {
        BlockLog x = new BlockLog();
        for (int key = 1; key <= 3; key++) {
            setBytes(x, key, 1, key);
            x.commit();
        }
        x.spoil(32 + 7, 2);
        dueAbout("the first entry spoilt", x, 0, 1, 0, 0, 0, 3, 0, 0, 0);
        setBytes(x, 9, 1, 9);
        x.commit();
        dueAbout("the blocks behind it are right still", x, 0, 1, 3, 3, 3, 4, 0, 0, 0);
        Check.due("size(1)", x.size(1), BlockLog.NONE);
        Check.due("get(3, 0)", x.get(3, 0), 3);
    }

    private static void crashWrong() {
        BlockLog x = new BlockLog();
        x.put(1, 1);
        Check.dueThrow("crash without a batch", UNSUPPORTED, () -> x.crash(0, 0));
        for (int round = 0; round < 2; round++) {
            Check.dueThrow("crash(-1, 0)", ILLEGAL, () -> x.crash(-1, 0));
            Check.dueThrow("crash(MIN, 0)", ILLEGAL, () -> x.crash(Integer.MIN_VALUE, 0));
            Check.dueThrow("crash(0, -1)", ILLEGAL, () -> x.crash(0, -1));
            Check.dueThrow("crash(0, 32)", ILLEGAL, () -> x.crash(0, 32));
            Check.dueThrow("crash(5, MAX)", ILLEGAL, () -> x.crash(5, Integer.MAX_VALUE));
            dueAbout("behind wrong ones", x, 0, 1, 0, 0, 0, 0, 0, round, 1);
            x.drop(1);
        }
    }

    private static void crashInABatch() {
        BlockLog x = new BlockLog();
        setBytes(x, 1, 30, 1);
        x.put(2, 5);
        Check.due("a crash behind the first block", x.crash(1, 0), 0);
        dueAbout("behind it", x, 0, 1, 0, 0, 0, 1, 0, 0, 0);
        Check.due("the first block is there", x.disk(34), 64 + 26);
        Check.due("the second is not", x.disk(66), 0);
        setBytes(x, 1, 30, 1);
        Check.due("a crash with all blocks", x.crash(2, 0), 1);
        dueAbout("behind it", x, 0, 1, 2, 1, 1, 3, 0, 0, 0);
        setBytes(x, 1, 30, 2);
        Check.due("a crash with more than all blocks", x.crash(Integer.MAX_VALUE, 31), 1);
        dueAbout("behind it", x, 0, 1, 4, 2, 1, 5, 0, 0, 0);
        Check.due("the value", x.get(1, 0), 2);
        x.drop(1);
        Check.due("a crash before all", x.crash(0, 0), 0);
        dueAbout("behind it", x, 0, 1, 4, 2, 1, 5, 0, 0, 0);
        setBytes(x, 1, 30, 3);
        Check.due("a crash in the first block", x.crash(0, 5), 0);
        dueDisk("it", x, 32 * 5, 1, 0, 64 + 26, x.disk(32 * 5 + 3), 5, 0, 0, 0);
        dueDisk("the next one", x, 32 * 6, 0, 0, 0, 0, 0, 0, 0);
    }

    private static void crashInBytes() {
        BlockLog x = new BlockLog();
        setBytes(x, 3, 2, 9);
        Check.due("a crash behind 10 bytes of 11", x.crash(0, 10), 0);
        dueDisk("behind it", x, 32, 1, 0, 192 + 5, x.disk(35), 1, 0, 1, 3, 2, 9, 0, 0);
        dueAbout("behind it", x, 0, 1, 0, 0, 0, 0, 0, 0, 0);
        setBytes(x, 3, 2, 9);
        Check.due("a crash behind 11 bytes: the others are 0", x.crash(0, 11), 1);
        dueAbout("a torn block is not written", x, 0, 1, 1, 1, 1, 0, 0, 0, 0);
        Check.due("the value", x.get(3, 1), 10);
        setBytes(x, 4, 30, 1);
        Check.due("a crash in the second block", x.crash(1, 12), 0);
        dueAbout("behind it", x, 0, 1, 1, 1, 1, 1, 0, 0, 0);
        setBytes(x, 4, 30, 1);
        Check.due("a crash in the second block, with all that is not 0", x.crash(1, 13), 1);
        dueAbout("behind it", x, 0, 1, 3, 2, 2, 2, 0, 0, 0);
        x.spoil(32 * 4 + 31, 5);
        x.drop(4);
        Check.due("a byte that is not 0 as it was", x.crash(0, 31), 0);
        dueAbout("behind it", x, 0, 1, 3, 2, 2, 2, 0, 0, 0);
    }

    private static BlockLog fullWithOneValue() {
        BlockLog x = new BlockLog();
        setBytes(x, 7, 3, 1);
        x.commit();
        fillWithDrops(x, 95);
        setBytes(x, 8, 1, 5);
        x.put(1, 1);
        return x;
    }

    private static void crashWhileAnew() {
        BlockLog x = fullWithOneValue();
        Check.due("a crash before the head", x.crash(1, 3), 0);
        dueAbout("behind it", x, 0, 1, 95, 95, 1, 96, 0, 0, 0);
        dueDisk("behind it", x, UPPER, 2, 0, 72, 0);
        dueDisk("behind it", x, UPPER + 32, 2, 0, 192 + 6);
        x.drop(0);
        Check.due("anew behind a crash has a greater epoch", x.commit(), 3);
        Check.due("its epoch", x.about(1), 3);

        BlockLog y = fullWithOneValue();
        Check.due("a crash that tears the head only where it is 0", y.crash(1, 4), 0);
        dueAbout("the head counts, but was not written", y, 1, 2, 1, 1, 1, 96, 0, 0, 0);
        Check.due("size(8)", y.size(8), BlockLog.NONE);
        Check.due("get(7, 2)", y.get(7, 2), 3);

        BlockLog z = fullWithOneValue();
        Check.due("a crash behind the head", z.crash(2, 0), 0);
        dueAbout("behind it", z, 1, 2, 1, 1, 1, 97, 1, 0, 0);

        BlockLog w = fullWithOneValue();
        Check.due("a crash behind all", w.crash(3, 0), 1);
        dueAbout("behind it", w, 1, 2, 2, 2, 2, 98, 1, 0, 0);
    }

    private static void spoilWrong() {
        BlockLog x = new BlockLog();
        for (int at : new int[] {Integer.MIN_VALUE, -1, 6144, Integer.MAX_VALUE}) {
            Check.dueThrow("spoil(" + at + ", 1)", OUTSIDE, () -> spoilt(x, at, 1));
        }
        x.drop(1);
        x.put(2, 1);
        x.spoil(6143, 0x1234);
        Check.due("the lowest byte", x.disk(6143), 0x34);
        x.spoil(6143, -1);
        Check.due("the lowest byte of -1", x.disk(6143), 255);
        dueAbout("batch and value stay", x, 0, 1, 0, 0, 0, 0, 0, 1, 2);
    }

    private static void spoilOfHeads() {
        BlockLog x = new BlockLog();
        setBytes(x, 7, 1, 1);
        x.commit();
        for (int k = 0; k < 32; k++) {
            int was = x.disk(k);
            x.spoil(k, was + 1);
            dueAbout("a spoilt head, byte " + k, x, 0, 0, 0, 0, 0, 1);
            x.spoil(k, was);
            dueAbout("a mended head, byte " + k, x, 0, 1, 1, 1, 1, 1);
        }
        x.spoil(31, 8);
        dueAbout("a head with the same sum, but a byte behind", x, 0, 0, 0, 0, 0, 1);
        setBytes(x, 9, 1, 6);
        x.commit();
        dueAbout("a commit in epoch 0", x, 0, 0, 1, 1, 1, 2, 0);
        dueDisk("a commit in epoch 0", x, 32, 0, 0, 192 + 4);
        Check.due("its value", x.get(9, 0), 6);
        x.spoil(31, 0);

        x.spoil(UPPER + 2, 72);
        x.spoil(UPPER + 3, 216);
        dueAbout("a head of epoch 0 beside one of 1", x, 0, 1, 0);
        x.spoil(UPPER, 1);
        x.spoil(UPPER + 3, 217);
        dueAbout("two heads that are alike", x, 0, 1, 0);
        x.spoil(UPPER + 1, 1);
        dueAbout("a greater epoch with a wrong sum", x, 0, 1, 0);
        x.spoil(UPPER + 3, 219);
        dueAbout("a greater epoch", x, 1, 257, 0);
        x.spoil(2, 73);
        dueAbout("only half 1's head counts", x, 1, 257, 0);
        x.spoil(UPPER + 2, 0);
        dueAbout("none counts", x, 0, 0, 1);
        x.spoil(UPPER, 0);
        x.spoil(UPPER + 1, 0);
        x.spoil(UPPER + 2, 72);
        x.spoil(UPPER + 3, 216);
        dueAbout("only half 1's head counts, of epoch 0", x, 1, 0, 0);
    }

    private static void spoilOfBlocks() {
        BlockLog x = new BlockLog();
        for (int key = 1; key <= 3; key++) {
            setBytes(x, key, 30, key);
            x.commit();
        }
        for (int k = 64; k < 192; k++) {
            int was = x.disk(k);
            // 1 more or less, times 1 .. 32, always makes another sum
            x.spoil(k, was ^ 1);
            dueAbout("a spoilt byte " + k, x, 0, 1, k < 96 ? 0 : k < 160 ? 2 : 4, k < 96 ? 0 : k < 160 ? 1 : 2);
            Check.due("size(1)", x.size(1), k < 96 ? BlockLog.NONE : 30);
            x.spoil(k, was);
        }
        dueAbout("all mended", x, 0, 1, 6, 3, 3, 6);
        dueSpoiltAndSummed(x, 2, 0, 2, "another epoch");
        dueSpoiltAndSummed(x, 2, 1, 1, "another epoch's upper byte");
        dueSpoiltAndSummed(x, 2, 4, 3, "another number");
        dueSpoiltAndSummed(x, 2, 5, 1, "another number's upper byte");
        dueSpoiltAndSummed(x, 2, 2, 128, "no bytes");
        dueSpoiltAndSummed(x, 2, 2, 128 + 27, "27 bytes");
        dueSpoiltAndSummed(x, 2, 2, 128 + 64 + 7, "a first block within an entry");
        dueSpoiltAndSummed(x, 1, 2, 26, "an entry without a first block");
        dueSpoiltAndSummed(x, 2, 2, 7, "an entry without a last block");
    }

    private static void dueSpoiltAndSummed(BlockLog x, int block, int place, int v, String what) {
        int at = 32 * block + place;
        int was = x.disk(at);
        int sum = x.disk(32 * block + 3);
        x.spoil(at, v);
        mendSum(x, block);
        dueAbout(what, x, 0, 1, 0, 0, 0, 6);
        x.spoil(at, was);
        x.spoil(32 * block + 3, sum);
        dueAbout(what + ", mended", x, 0, 1, 6, 3, 3, 6);
    }

    private static void spoilOfBytesBehind() {
        BlockLog x = new BlockLog();
        setBytes(x, 1, 1, 1);
        x.commit();
        x.spoil(32 + 31, 8);
        dueAbout("a byte behind those that count, with the same sum", x, 0, 1, 1, 1, 1);
        x.spoil(32 + 31, 1);
        dueAbout("a byte behind those that count, with another sum", x, 0, 1, 0, 0, 0);
        mendSum(x, 1);
        dueAbout("with its sum", x, 0, 1, 1, 1, 1);
    }

    private static void spoilOfEntries() {
        BlockLog x = new BlockLog();
        setBytes(x, 7, 2, 1);
        x.drop(8);
        x.commit();
        setBytes(x, 9, 1, 1);
        x.commit();
        // behind 6: changes, key, bytes, 1, 2, key, dropped
        dueEntry(x, 6, 2, true, "as it was");
        dueEntry(x, 6, 0, false, "no changes");
        dueEntry(x, 6, 1, false, "a change too few");
        dueEntry(x, 6, 3, false, "a change too many");
        dueEntry(x, 6, 9, false, "9 changes");
        dueEntry(x, 7, 199, true, "key 199");
        dueEntry(x, 7, 200, false, "key 200");
        dueEntry(x, 7, 255, false, "key 255");
        dueEntry(x, 8, 1, false, "one byte in the value");
        dueEntry(x, 8, 4, false, "4 bytes, with those of the next change");
        dueEntry(x, 8, 40, false, "40 bytes that are not there");
        dueEntry(x, 8, 41, false, "41 bytes");
        dueEntry(x, 12, 0, true, "an empty value for a drop");
        dueEntry(x, 12, 254, false, "254 bytes");
        dueEntry(x, 2, 192 + 8, false, "a byte too many");
        dueEntry(x, 2, 192 + 6, false, "a byte too few");

        x.spoil(32 + 7, 7 + 32);
        dueAbout("another key with the same sum", x, 0, 1, 2, 2, 2);
        Check.due("the other key's size", x.size(39), 2);
        x.spoil(32 + 7, 7 + 224);
        dueAbout("no key with the same sum", x, 0, 1, 0, 0, 0);
        setBytes(x, 5, 1, 1);
        x.commit();
        dueDisk("the next commit goes in its place", x, 32 + 4, 1, 0, 1, 5, 1, 1);
        wrongNumberOfChanges();
        wrongNumberOfBytesInABlock();
        valueOf41Bytes();
    }

    private static void dueEntry(BlockLog x, int place, int v, boolean good, String what) {
        int was = x.disk(32 + place);
        int sum = x.disk(32 + 3);
        x.spoil(32 + place, v);
        mendSum(x, 1);
        Check.due(what + ": about(3)", x.about(3), good ? 2 : 0);
        Check.due(what + ": about(2)", x.about(2), good ? 2 : 0);
        Check.due(what + ": size(9)", x.size(9), good ? 1 : BlockLog.NONE);
        x.spoil(32 + place, was);
        x.spoil(32 + 3, sum);
    }

    /** Bytes that would be an entry but for their number of changes. */
    private static void wrongNumberOfChanges() {
        BlockLog x = new BlockLog();
        for (int i = 0; i < 8; i++) {
            x.drop(i);
        }
        x.commit();
        x.spoil(32 + 6, 9);
        x.spoil(32 + 2, 192 + 19);
        x.spoil(32 + 23, 9);
        x.spoil(32 + 24, 255);
        mendSum(x, 1);
        Check.due("an entry of 9 changes", x.about(3), 0);
        x.spoil(32 + 6, 8);
        x.spoil(32 + 2, 192 + 17);
        mendSum(x, 1);
        Check.due("an entry of 8 changes", x.about(3), 1);
        x.spoil(32 + 6, 0);
        x.spoil(32 + 2, 192 + 1);
        mendSum(x, 1);
        Check.due("an entry of no changes", x.about(3), 0);
    }

    /** Blocks that would make an entry whole, but have 27 bytes, or none. */
    private static void wrongNumberOfBytesInABlock() {
        BlockLog x = new BlockLog();
        setBytes(x, 9, 23, 1);
        x.commit();
        x.spoil(32 + 2, 64 + 26);
        mendSum(x, 1);
        x.spoil(64, 1);
        x.spoil(64 + 4, 2);
        x.spoil(64 + 2, 128);
        mendSum(x, 2);
        Check.due("a last block of no bytes", x.about(3), 0);
        x.spoil(64 + 2, 128 + 1);
        mendSum(x, 2);
        Check.due("a last block of a byte too many", x.about(3), 0);
        x.spoil(32 + 8, 24);
        mendSum(x, 1);
        Check.due("a last block of a byte", x.about(3), 1);
        x.spoil(32 + 2, 192 + 27);
        mendSum(x, 1);
        Check.due("a block of 27 bytes", x.about(3), 0);
    }

    private static void valueOf41Bytes() {
        BlockLog x = new BlockLog();
        setBytes(x, 9, 40, 1);
        x.commit();
        x.spoil(32 + 8, 41);
        mendSum(x, 1);
        x.spoil(64 + 2, 128 + 18);
        mendSum(x, 2);
        Check.due("a value of 41 bytes", x.about(3), 0);
        x.spoil(32 + 8, 40);
        mendSum(x, 1);
        x.spoil(64 + 2, 128 + 17);
        mendSum(x, 2);
        Check.due("a value of 40 bytes", x.about(3), 1);
    }

    private static void size() {
        BlockLog x = new BlockLog();
        for (int key : new int[] {Integer.MIN_VALUE, -1, 200, Integer.MAX_VALUE}) {
            Check.dueThrow("size(" + key + ")", ILLEGAL, () -> x.size(key));
        }
        setBytes(x, 0, 0, 0);
        setBytes(x, 199, 40, 0);
        x.commit();
        Check.due("size(0)", x.size(0), 0);
        Check.due("size(199)", x.size(199), 40);
        Check.due("size(1)", x.size(1), BlockLog.NONE);
    }

    private static void get() {
        BlockLog x = new BlockLog();
        setBytes(x, 0, 0, 0);
        setBytes(x, 199, 40, 250);
        x.commit();
        for (int key : new int[] {Integer.MIN_VALUE, -1, 200, Integer.MAX_VALUE}) {
            Check.dueThrow("get(" + key + ", 0)", ILLEGAL, () -> x.get(key, 0));
            Check.dueThrow("get(" + key + ", -1)", ILLEGAL, () -> x.get(key, -1));
        }
        for (int k : new int[] {Integer.MIN_VALUE, -1, 40, Integer.MAX_VALUE}) {
            Check.dueThrow("get(199, " + k + ")", NO_SUCH, () -> x.get(199, k));
            Check.dueThrow("get(1, " + k + ")", NO_SUCH, () -> x.get(1, k));
        }
        Check.dueThrow("get(0, 0) of an empty value", NO_SUCH, () -> x.get(0, 0));
        Check.dueThrow("get(1, 0) without a value", NO_SUCH, () -> x.get(1, 0));
        for (int k = 0; k < 40; k++) {
            Check.due("get(199, " + k + ")", x.get(199, k), 250 + k & 255);
        }
    }

    private static void disk() {
        BlockLog x = new BlockLog();
        for (int k : new int[] {Integer.MIN_VALUE, -1, 6144, Integer.MAX_VALUE}) {
            Check.dueThrow("disk(" + k + ")", OUTSIDE, () -> x.disk(k));
        }
        x.spoil(0, 200);
        x.spoil(6143, 255);
        Check.due("disk(0)", x.disk(0), 200);
        Check.due("disk(6143)", x.disk(6143), 255);
        Check.due("disk(6142)", x.disk(6142), 0);
    }

    private static void about() {
        BlockLog x = new BlockLog();
        for (int what : new int[] {Integer.MIN_VALUE, -1, 9, Integer.MAX_VALUE}) {
            Check.dueThrow("about(" + what + ")", ILLEGAL, () -> x.about(what));
        }
        setBytes(x, 1, 30, 1);
        x.drop(2);
        x.commit();
        x.drop(3);
        x.put(3, 3);
        dueAbout("at last", x, 0, 1, 2, 1, 1, 2, 0, 1, 3);
    }
}
