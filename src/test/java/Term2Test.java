/** Term 2: the disk, its heads and log blocks, and their sums. What of it counts is in Term2LiveTest and Term2LogTest. */
public final class Term2Test {
    private static final int UPPER = Image.UPPER;

    public static void main(String[] args) {
        Check.all(Term2Test.class);
    }

    @Says("THE DISK has 192 BLOCKS of 32 bytes")
    static void theDiskEndsBehindByte6143() {
        Run x = new Run();
        x.disk(6143).due(0);
        x.disk(6144).due(Answer.OUTSIDE);
        x.spoil(6143, 9);
        x.disk(6143).due(9);
        x.spoil(6144, 9).due(Answer.OUTSIDE);
    }

    @Says("in two HALVES, from block 0 and 96 on")
    static void aHeadOutsideBlocks0And96IsNone() {
        for (int block : new int[] {95, 97, 191}) {
            Image image = Image.fresh().with(32 * block, 2).with(32 * block + 2, 72).summed(block);
            Run.of(image).dueAbout(0, 1, 0);
        }
        Run.of(Image.fresh().with(UPPER, 2).with(UPPER + 2, 72).summed(96)).dueAbout(1, 2, 0);
    }

    @Says("all 0 at first, but block 0 as a HEAD of epoch 1")
    static void theDiskAtFirst() {
        new Run().dueDisk(0, 1, 0, 72, 217, 0);
        Run.dueWholeDisk(Run::new, Image.fresh());
    }

    @Says("0 and 1 an EPOCH (the lower byte first)")
    static void aHeadsEpochHasItsLowerByteFirst() {
        Run x = new Run();
        x.spoil(0, 2);
        x.spoil(1, 1);
        // 2 * 1 + 1 * 2 + 72 * 3
        x.spoil(3, 220);
        x.about(1).due(258);
    }

    @Says("0 and 1 an EPOCH (the lower byte first)")
    static void aHeadIsWrittenWithItsLowerByteFirst() {
        Run x = Run.of(Image.fresh().with(UPPER, 255).with(UPPER + 1, 1)).logOf(95);
        x.drops(1).commit().due(2);
        x.dueDisk(UPPER, 0, 2, 72, 220, 0);
    }

    @Says("it COUNTS if its bytes are: .. 2 the number 72")
    static void aHeadWithAnotherNumberThan72() {
        for (int mark : new int[] {0, 71, 73, 72 + 128, 72 - 64, 255}) {
            Run.of(Image.fresh().with(2, mark).summed(0)).dueAbout(0, 0);
        }
    }

    @Says("it COUNTS if its bytes are: .. 3 its SUM")
    static void aHeadWithAnotherSum() {
        for (int sum : new int[] {0, 216, 218, 217 - 128, 255}) {
            Run.of(Image.fresh().with(3, sum)).dueAbout(0, 0);
        }
        Run.of(Image.fresh().with(3, 217)).dueAbout(0, 1);
    }

    @Says("it COUNTS if its bytes are: .. the others 0")
    static void aHeadWithAnotherByteThatIsNot0() {
        for (int place = 4; place < 32; place++) {
            Run.of(Image.fresh().with(place, 1).summed(0)).dueAbout(0, 0);
        }
        // 8 times 32 is 256: the sum stays
        Run.of(Image.fresh().with(31, 8)).dueAbout(0, 0);
    }

    @Says("it COUNTS if its bytes are: 0 and 1 an EPOCH")
    static void aHeadOfTheLeastAndTheGreatestEpoch() {
        Run.of(Image.fresh().head(0, 65535)).dueAbout(0, 65535);
        Run.of(Image.headless().head(1, 0)).dueAbout(1, 0);
        Run.of(Image.headless().head(1, 65535)).dueAbout(1, 65535);
    }

    @Says("Blocks 1 .. 95 are LOG BLOCKS")
    static void theLogGoesFromBlock1ToBlock95() {
        Run x = new Run();
        x.put(1, 9);
        x.set(5);
        x.commit().due(1);
        x.dueBlock(1, Image.fresh().block(0, 1, 1, Image.ONLY + 4, 1, 5, 1, 9));
        x.logOf(94);
        x.put(1, 8);
        x.set(6);
        x.commit().due(1);
        x.dueAbout(0, 1, 95, 95);
        x.dueBlock(95, Image.fresh().block(0, 95, 1, Image.ONLY + 4, 1, 6, 1, 8));
        x.dueDisk(UPPER, 0, 0, 0, 0);
    }

    @Says("0 and 1 the epoch")
    static void aLogBlocksEpochHasItsLowerByteFirst() {
        Run x = Run.of(Image.fresh().head(0, 0x0201));
        x.drops(1).commit();
        x.dueDisk(32, 1, 2);
        x.about(2).due(1);
    }

    @Says("2 how many bytes it has for an entry, 1 .. 26, and 64 more in an entry's first block, 128 more in its last one")
    static void theNumberOfBytesInEachBlockOfAnEntry() {
        // an entry of so many bytes, and byte 2 of its blocks
        dueCounts(3, Image.ONLY + 3);
        dueCounts(26, Image.ONLY + 26);
        dueCounts(27, Image.FIRST + 26, Image.LAST + 1);
        dueCounts(52, Image.FIRST + 26, Image.LAST + 26);
        dueCounts(53, Image.FIRST + 26, 26, Image.LAST + 1);
    }

    private static void dueCounts(int bytes, int... counts) {
        Run x = new Run().batchOfBytes(1, bytes);
        x.commit().due(counts.length);
        for (int i = 0; i < counts.length; i++) {
            x.disk(32 * (1 + i) + 2).due(counts[i]);
        }
        x.disk(32 * (1 + counts.length) + 2).due(0);
    }

    @Says("4 and 5 its number in the half, from 1 on, the lower byte first")
    static void numbersInHalf1AreFrom1OnToo() {
        Run x = new Run().logOf(95);
        x.batchOfBytes(1, 27).commit().due(3);
        x.dueDisk(UPPER + 32 + 4, 1, 0);
        x.dueDisk(UPPER + 64 + 4, 2, 0);
    }

    @Says("4 and 5 its number in the half, from 1 on, the lower byte first")
    static void aNumberHasItsLowerByteFirst() {
        Run.of(Image.fresh().entry(0, 1, 1, 1, 5, 255)).about(2).due(1);
        Image other = Image.fresh().entry(0, 1, 1, 1, 5, 255).with(36, 0).with(37, 1).summed(1);
        Run.of(other).about(2).due(0);
    }

    @Says("then these bytes, the others 0")
    static void bytesBehindAnEntryBecome0() {
        Image junk = Image.fresh();
        for (int at = 64; at < 96; at++) {
            junk.with(at, 77);
        }
        Run x = Run.of(junk).batchOfBytes(3, 31);
        x.commit().due(2);
        x.dueBlock(2, Image.fresh().block(0, 2, 1, Image.LAST + 5, 24, 25, 26, 27, 28));
    }

    @Says("A SUM is what all bytes of the block but byte 3, each times its place and 1 more, come to together")
    static void aSumByHand() {
        Run x = new Run();
        x.put(2, 0x0A09);
        x.set(3);
        x.commit();
        // 1 * 1 + 197 * 3 + 1 * 5 + 1 * 7 + 3 * 8 + 2 * 9 + 9 * 10 + 10 * 11 = 846 = 3 * 256 + 78
        x.dueDisk(32, 1, 0, 197, 78, 1, 0, 1, 3, 2, 9, 10, 0);
    }

    @Says("A SUM is what all bytes of the block but byte 3")
    static void aSumHasEachByteButByte3() {
        Image image = Image.fresh().entry(0, 1, 1, 1, 5, 23, 1, 2, 3, 4, 5, 6, 7, 8, 9, 10, 11, 12, 13, 14, 15, 16, 17, 18, 19, 20, 21, 22, 23);
        Run x = Run.of(image);
        for (int place = 9; place < 32; place++) {
            int was = image.at(32 + place);
            x.spoil(32 + place, was + 1);
            x.about(3).due(0);
            x.spoil(32 + 3, image.at(32 + 3) + place + 1);
            x.about(3).due(1);
            x.spoil(32 + place, was);
            x.about(3).due(0);
            x.spoil(32 + 3, image.at(32 + 3));
            x.about(3).due(1);
        }
    }

    @Says("by its lowest eight bits")
    static void aSumOf255And256And257() {
        Run x = new Run();
        for (int epoch = 39; epoch <= 41; epoch++) {
            // 72 * 3 is 216
            x.spoil(0, epoch);
            x.about(1).due(0);
            x.spoil(3, epoch == 39 ? 255 : epoch - 40);
            x.about(1).due(epoch);
        }
    }

    @Says("by its lowest eight bits")
    static void theGreatestBytesSum() {
        Run x = new Run();
        for (int i = 0; i < 10; i++) {
            x.put(4, -1);
        }
        x.set(199);
        x.commit().due(2);
        // 1 + 90 * 3 + 5 + 7 + 199 * 8 + 40 * 9 + 255 * (10 + .. + 32) = 2235 + 255 * 483 = 125400
        x.disk(32 + 3).due(125400 & 255);
        x.about(3).due(1);
    }
}
