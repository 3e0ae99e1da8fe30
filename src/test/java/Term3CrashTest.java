import java.util.function.Supplier;

/** Term 3: writes, and what a crash leaves of them. */
public final class Term3CrashTest {
    private static final int UPPER = Image.UPPER;

    public static void main(String[] args) {
        Check.all(Term3CrashTest.class);
    }

    /** Blocks 1 .. 5 are full of 77, and a batch of 78 bytes is to go into blocks 1 .. 3. */
    private static Image junk() {
        Image image = Image.fresh();
        for (int at = 32; at < 6 * 32; at++) {
            image.with(at, 77);
        }
        return image;
    }

    private static Image meant(Image image) {
        int[] data = new int[78];
        data[0] = 2;
        data[1] = 5;
        data[2] = 40;
        data[43] = 6;
        data[44] = 33;
        for (int i = 0; i < 40; i++) {
            data[3 + i] = 1 + i;
        }
        for (int i = 0; i < 33; i++) {
            data[45 + i] = 1 + i;
        }
        return image.entry(0, 1, 1, data);
    }

    /** The bytes that a crash is to leave: so many new blocks, and of the next one so many new bytes. */
    private static Image left(int blocks, int bytes) {
        Image image = junk();
        Image all = meant(junk());
        for (int at = 32; at < 4 * 32 && at < 32 * (1 + blocks) + bytes; at++) {
            image.with(at, all.at(at));
        }
        return image;
    }

    private static void dueLeft(int blocks, int bytes) {
        Run x = Run.of(junk()).batchOfBytes(5, 78);
        x.crash(blocks, bytes);
        for (int block = 0; block < 6; block++) {
            x.dueBlock(block, left(blocks, bytes));
        }
    }

    @Says("WRITES of blocks come one after the other. A CRASH leaves so many of them as are told")
    static void soManyBlocksAreWritten() {
        for (int blocks = 0; blocks <= 3; blocks++) {
            dueLeft(blocks, 0);
        }
    }

    @Says("A CRASH leaves so many of them as are told")
    static void moreBlocksThanThereAre() {
        for (int blocks : new int[] {3, 4, 95, Integer.MAX_VALUE}) {
            Run x = Run.of(junk()).batchOfBytes(5, 78);
            x.crash(blocks, 31).due(1);
            x.dueAbout(0, 1, 3, 1, 2, 3);
        }
    }

    @Says("of the next one (if there is one) so many of its first bytes as are told are new, the others as they were")
    static void soManyBytesOfTheNextBlockAreNew() {
        for (int bytes = 0; bytes < 32; bytes++) {
            dueLeft(0, bytes);
            dueLeft(2, bytes);
        }
        dueLeft(1, 1);
        dueLeft(1, 31);
    }

    @Says("of the next one (if there is one)")
    static void noneIsNext() {
        for (int bytes : new int[] {0, 1, 31}) {
            dueLeft(3, bytes);
            dueLeft(4, bytes);
        }
    }

    @Says("of the next one (if there is one)")
    static void noneIsNextBehindTheHalfsLastBlock() {
        Run x = new Run().logOf(94).drops(1);
        x.crash(1, 31).due(1);
        x.dueAbout(0, 1, 95, 95);
        x.dueBlock(96, Image.fresh());
    }

    /** Key 5 has a value, the log is full, and the batch is to give key 6 one: an entry, a head and an entry. */
    private static Run full() {
        Run x = new Run().setTo(5, 1, 9);
        x.commit();
        return x.logOf(95).setTo(6, 1, 8);
    }

    @Says("A CRASH leaves so many of them as are told; of the next one (if there is one) so many of its first bytes")
    static void aCrashBeforeTheHead() {
        Run x = full();
        x.crash(1, 3).due(0);
        x.dueAbout(0, 1, 95, 95, 1, 96, 0);
        x.dueDisk(UPPER, 2, 0, 72, 0);
        x.dueBlock(97, new Image().entry(1, 1, 2, 1, 5, 1, 9));
        x.dueBlock(98, new Image());
        // the epoch that the lost log had is not used again
        x.drops(1).commit().due(3);
        x.about(1).due(3);
    }

    @Says("What counts then is what the disk says.")
    static void aTornHeadCountsIfItsOtherBytesWereRight() {
        Run x = full();
        x.crash(1, 4).due(0);
        x.dueBlock(96, new Image().head(1, 2));
        x.dueAbout(1, 2, 1, 1, 1, 96, 0);
        x.dueValue(5, 9);
        x.dueNone(6);
    }

    @Says("What counts then is what the disk says.")
    static void aTornBlockCountsIfItsOtherBytesWereRight() {
        for (int bytes = 0; bytes < 32; bytes++) {
            Run x = new Run().setTo(3, 2, 9);
            // 6 bytes, and 5 of the entry
            x.crash(0, bytes).due(bytes >= 11 ? 1 : 0);
            x.dueAbout(0, 1, bytes >= 11 ? 1 : 0, bytes >= 11 ? 1 : 0, bytes >= 11 ? 1 : 0, 0);
        }
    }

    @Says("What counts then is what the disk says.")
    static void aTornBlockDoesNotCountIfItsOtherBytesWereOthers() {
        Run x = Run.of(Image.fresh().with(63, 1)).setTo(3, 2, 9);
        x.crash(0, 31).due(0);
        x.dueAbout(0, 1, 0, 0, 0, 0);
        // 8 times 32 is 256: the sum stays, so that the block is right, though not as it was to be
        Run y = Run.of(Image.fresh().with(63, 8)).setTo(3, 2, 9);
        y.crash(0, 31).due(0);
        y.dueAbout(0, 1, 1, 1, 1, 0);
        y.dueValue(3, 9, 10);
    }

    @Says("What counts then is what the disk says.")
    static void aCrashBehindTheHeadLosesTheBatchAlone() {
        Run x = full();
        x.crash(2, 0).due(0);
        x.dueAbout(1, 2, 1, 1, 1, 97, 1);
        x.dueNone(6);
        Run y = full();
        y.crash(3, 0).due(1);
        y.dueAbout(1, 2, 2, 2, 2, 98, 1);
    }

    @Says("A CRASH leaves so many of them as are told")
    static void aCrashChangesNoOtherByte() {
        Supplier<Run> made = () -> {
            Run x = Run.of(junk()).batchOfBytes(5, 78);
            x.crash(1, 17).due(0);
            return x;
        };
        Run.dueWholeDisk(made, left(1, 17));
    }
}
