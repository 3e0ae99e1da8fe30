import java.util.function.Supplier;

/** Term 3: when the log is made anew, how, and when a batch is refused. */
public final class Term3AnewTest {
    private static final int UPPER = Image.UPPER;

    public static void main(String[] args) {
        Check.all(Term3AnewTest.class);
    }

    @Says("if there are not enough blocks behind the log in the half")
    static void justEnoughBlocks() {
        for (int blocks = 1; blocks <= 3; blocks++) {
            Run x = new Run().logOf(95 - blocks).batchOfBytes(1, 26 * blocks);
            x.commit().due(blocks);
            x.dueAbout(0, 1, 95, 95 - blocks + 1, blocks == 1 ? 1 : 2, 95, 0);
            x.dueDisk(UPPER, 0, 0, 0, 0);
        }
    }

    @Says("if there are not enough blocks behind the log in the half")
    static void oneBlockTooFew() {
        for (int blocks = 1; blocks <= 3; blocks++) {
            Run x = new Run().logOf(96 - blocks).batchOfBytes(1, 26 * blocks);
            x.commit().due(1 + blocks);
            x.dueAbout(1, 2, blocks, 1, blocks == 1 ? 1 : 2, 97, 1);
        }
    }

    @Says("the log is first MADE ANEW in the other half")
    static void fromHalf0ToHalf1LeavesHalf0() {
        Supplier<Run> made = () -> {
            Run x = new Run().setTo(5, 1, 9);
            x.commit();
            x.logOf(95).setTo(6, 1, 8).commit();
            return x;
        };
        made.get().dueAbout(1, 2, 2, 2, 2, 98, 1);
        Image want = Image.fresh().entry(0, 1, 1, 1, 5, 1, 9);
        for (int number = 2; number <= 95; number++) {
            want.entry(0, number, 1, 1, 199, 255);
        }
        want.entry(1, 1, 2, 1, 5, 1, 9).head(1, 2).entry(1, 2, 2, 1, 6, 1, 8);
        Run.dueWholeDisk(made, want);
    }

    @Says("the log is first MADE ANEW in the other half")
    static void fromHalf1BackToHalf0() {
        Run x = new Run().setTo(5, 1, 9);
        x.commit();
        x.logOf(95).drops(1).commit().due(3);
        x.logOf(95).drops(1).commit().due(3);
        x.dueAbout(0, 3, 2, 2, 1, 95 + 3 + 93 + 3, 2);
        x.dueBlock(0, new Image().head(0, 3));
        x.dueDisk(32, 3, 0, Image.ONLY + 4);
        // a block of the log that was there before
        x.dueDisk(96, 1, 0, Image.ONLY + 3);
        x.dueValue(5, 9);
    }

    @Says("with an epoch of one more than the greatest one in the first two bytes of the other half's blocks, and the live one")
    static void theLiveEpochIsTheGreatest() {
        dueEpoch(Image.fresh(), 2);
        dueEpoch(Image.fresh().head(0, 700).with(UPPER, 188).with(UPPER + 1, 2), 701);
        dueEpoch(Image.fresh().head(0, 700).with(UPPER, 187).with(UPPER + 1, 2), 701);
    }

    @Says("with an epoch of one more than the greatest one in the first two bytes of the other half's blocks")
    static void theFirstOrTheLastBlocksIsTheGreatest() {
        for (int block : new int[] {96, 97, 150, 190, 191}) {
            dueEpoch(Image.fresh().with(32 * block, 2), 3);
            dueEpoch(Image.fresh().with(32 * block + 1, 1), 257);
            dueEpoch(Image.fresh().with(32 * block, 255).with(32 * block + 1, 127), 32768);
        }
        dueEpoch(Image.fresh().with(32 * 100, 9).with(32 * 120, 20).with(32 * 140, 11), 21);
    }

    @Says("the greatest one in the first two bytes of the other half's blocks")
    static void otherBytesAndTheLiveHalfsBlocksAreNotAsked() {
        dueEpoch(Image.fresh().with(UPPER + 2, 9).with(UPPER + 32 + 31, 9), 2);
        // block 95 of the live half is not in its log, and the batch takes two blocks
        dueEpoch(Image.fresh().with(32 * 95, 200), 2);
    }

    @Says("the greatest one in the first two bytes of the other half's blocks")
    static void theOtherHalfIsHalf0() {
        // half 1 is live: by its greater epoch, or because half 0's head, which tells of 2305, does not count
        Image[] images = {Image.fresh().head(1, 2).with(32 * 50, 40), Image.fresh().head(1, 2).with(1, 9)};
        int[] epochs = {41, 2306};
        for (int i = 0; i < images.length; i++) {
            Run x = Run.of(images[i]).logOf(95).drops(1);
            x.about(0).due(1);
            x.commit().due(2);
            x.dueAbout(0, epochs[i], 1, 1);
            x.dueBlock(0, new Image().head(0, epochs[i]));
        }
    }

    private static void dueEpoch(Image image, int epoch) {
        Run x = Run.of(image).logOf(94).batchOfBytes(1, 27);
        x.commit().due(3);
        x.dueAbout(1, epoch, 2, 1);
        x.dueBlock(96, new Image().head(1, epoch));
        x.dueDisk(UPPER + 32, epoch & 255, epoch >> 8);
    }

    @Says("entries of all keys that have a value")
    static void noKeyHasAValue() {
        Run x = new Run().setTo(5, 1, 9);
        x.commit();
        x.drop(5);
        x.commit();
        x.logOf(95).drops(1).commit().due(2);
        x.dueAbout(1, 2, 1, 1, 0, 97, 1);
        x.dueDisk(UPPER + 32 + 6, 1, 199, 255);
    }

    @Says("entries of all keys that have a value")
    static void anEmptyValueIsOneAndADroppedKeyHasNone() {
        Run x = new Run();
        x.set(0);
        x.set(5);
        x.set(199);
        x.commit();
        x.drop(5);
        x.commit();
        // drops of key 198, for key 199 has a value
        for (int i = 2; i < 95; i++) {
            x.drop(198);
            x.commit();
        }
        x.drop(198);
        x.commit().due(3);
        x.dueBlock(97, new Image().entry(1, 1, 2, 2, 0, 0, 199, 0));
        x.dueAbout(1, 2, 2, 2, 2);
    }

    @Says("by keys")
    static void keysComeFromTheLeastOn() {
        Run x = new Run().setTo(150, 2, 11).setTo(20, 1, 33);
        x.commit();
        x.setTo(3, 1, 44).commit();
        x.logOf(95).drops(1).commit().due(3);
        x.dueBlock(97, new Image().entry(1, 1, 2, 3, 3, 1, 44, 20, 1, 33, 150, 2, 11, 12));
    }

    @Says("each of so many changes as fit: 8 at most")
    static void eightAndNineAndSixteenKeys() {
        dueEntriesAnew(1, 1);
        dueEntriesAnew(8, 1);
        dueEntriesAnew(9, 2);
        dueEntriesAnew(16, 2);
        dueEntriesAnew(17, 3);
    }

    private static void dueEntriesAnew(int keys, int entries) {
        Run x = new Run();
        for (int i = 0; i < keys; i++) {
            x.set(10 * i);
            if (i % 4 == 3 || i == keys - 1) {
                x.commit();
            }
        }
        x.logOf(95).drops(1).commit().due(entries + 2);
        x.dueAbout(1, 2, entries + 1, entries + 1, keys);
        for (int i = 0; i < entries; i++) {
            int many = Math.min(8, keys - 8 * i);
            x.dueDisk(UPPER + 32 * (1 + i) + 6, many, 80 * i & 255, 0);
        }
    }

    @Says("each of so many changes as fit: 8 at most")
    static void allKeysIn25Entries() {
        Run x = new Run();
        for (int key = 0; key < 200; key++) {
            x.set(key);
            if (key % 8 == 7) {
                x.commit();
            }
        }
        for (int i = 25; i < 95; i++) {
            x.set(0);
            x.commit();
        }
        x.set(0);
        x.commit().due(25 + 1 + 1);
        x.dueAbout(1, 2, 26, 26, 200, 95 + 27, 1);
        x.dueDisk(UPPER + 32 * 25 + 6, 8, 192, 0, 193, 0, 194, 0, 195, 0, 196, 0, 197, 0, 198, 0, 199, 0);
    }

    @Says("each of so many changes as fit: 8 at most")
    static void anEntryAnewOf13Blocks() {
        Run x = new Run();
        for (int key = 1; key <= 8; key++) {
            x.setTo(key, 40, key);
        }
        x.commit().due(13);
        x.logOf(95).drops(1).commit().due(13 + 1 + 1);
        x.dueAbout(1, 2, 14, 2, 8);
        x.get(8, 39).due(47);
        x.disk(UPPER + 32 * 13 + 2).due(Image.LAST + 25);
    }

    @Says("from block 1 on; then the head")
    static void theHeadComesBehindTheEntriesAndBeforeTheBatch() {
        for (int written = 0; written <= 4; written++) {
            Run x = new Run();
            for (int key = 1; key <= 9; key++) {
                x.set(key);
                if (key == 8 || key == 9) {
                    x.commit();
                }
            }
            x.logOf(95).drops(1).crash(written, 0).due(written == 4 ? 1 : 0);
            x.disk(UPPER + 32).due(written > 0 ? 2 : 0);
            x.disk(UPPER + 64).due(written > 1 ? 2 : 0);
            x.disk(UPPER).due(written > 2 ? 2 : 0);
            x.disk(UPPER + 96).due(written > 3 ? 2 : 0);
            x.dueAbout(written > 2 ? 1 : 0, written > 2 ? 2 : 1);
            x.about(6).due(written > 2 ? 1 : 0);
            x.about(4).due(9);
        }
    }

    /** Keys 0 .. 55 with values of 40 bytes, all 0: 7 entries of 13 blocks; a drop is the 92nd block. */
    private static Run with91BlocksOfValues() {
        return Run.of(imageOf91Blocks()).logOf(92);
    }

    private static Image imageOf91Blocks() {
        Image image = Image.headless();
        for (int i = 0; i < 7; i++) {
            image.entry(0, 1 + 13 * i, 0, zeros(8 * i, 8, 40));
        }
        return image;
    }

    /** An entry that gives so many keys values of so many bytes, all 0. */
    private static int[] zeros(int key, int keys, int many) {
        int[] data = new int[1 + keys * (2 + many)];
        data[0] = keys;
        for (int i = 0; i < keys; i++) {
            data[1 + i * (2 + many)] = key + i;
            data[2 + i * (2 + many)] = many;
        }
        return data;
    }

    @Says("If then there would not be enough blocks still .. the batch is refused")
    static void justEnoughBlocksStill() {
        // 104 bytes take 4 blocks: 96 are too many behind the log of 92, and just 95 behind the 91 anew
        Run x = with91BlocksOfValues().batchOfBytes(100, 85).setTo(102, 17, 1);
        x.commit().due(91 + 1 + 4);
        x.dueAbout(1, 1, 95, 8, 59, 1 + 96, 1);
        x.size(55).due(40);
        x.size(102).due(17);
    }

    @Says("If then there would not be enough blocks still .. the batch is refused")
    static void oneBlockTooFewStill() {
        Run x = with91BlocksOfValues().batchOfBytes(100, 85).setTo(102, 18, 1);
        x.commit().due(Answer.UNSUPPORTED);
        x.crash(0, 0).due(Answer.UNSUPPORTED);
        x.dueAbout(0, 0, 92, 8, 56, 1, 0, 3, 0);
        // of 4 blocks it isn't refused
        x.forget();
        x.batchOfBytes(100, 79).commit().due(91 + 1 + 4);
    }

    @Says("If then there would not be enough blocks still .. the batch is refused")
    static void theLastKeysValueTakesABlockToo() {
        // its value is in the 92nd block, and in the 92nd one anew: 4 blocks are too many
        Run x = Run.of(imageOf91Blocks()).setTo(199, 1, 1);
        x.commit().due(1);
        x.batchOfBytes(100, 85).setTo(102, 17, 1);
        x.commit().due(Answer.UNSUPPORTED);
        x.dueAbout(0, 0, 92, 8, 57, 1, 0, 3, 0);
        x.dueValue(199, 1);
    }

    /** Entries of 7 keys take 11 blocks, 93 in all; of 8 keys they take 13, and it would be 96. */
    private static Image valuesThatNeedMoreAnew() {
        Image image = Image.headless();
        for (int i = 0; i < 8; i++) {
            image.entry(0, 1 + 11 * i, 0, zeros(7 * i, 7, 37));
        }
        // 1 + 34 + 35 + 35 bytes: one more than 4 blocks have
        int[] last = new int[105];
        last[0] = 3;
        last[1] = 56;
        last[2] = 32;
        last[35] = 57;
        last[36] = 33;
        last[70] = 58;
        last[71] = 33;
        return image.entry(0, 89, 0, last);
    }

    @Says("or if this would not fit .. the batch is refused")
    static void theValuesWouldNotFitAnew() {
        Run x = Run.of(valuesThatNeedMoreAnew());
        x.dueAbout(0, 0, 93, 9, 59);
        x.batchOfBytes(100, 53);
        x.commit().due(Answer.UNSUPPORTED);
        x.crash(9, 9).due(Answer.UNSUPPORTED);
        x.dueAbout(0, 0, 93, 9, 59, 0, 0, 2, 0);
        x.forget();
        // what needs no log anew is not refused: 2 blocks are left
        x.batchOfBytes(100, 52).commit().due(2);
        x.drop(0);
        x.commit().due(Answer.UNSUPPORTED);
    }

    @Says("the batch is refused, and nothing is written")
    static void aBatchRefusedForSpaceWritesNothing() {
        Supplier<Run> made = () -> {
            Run x = Run.of(valuesThatNeedMoreAnew()).batchOfBytes(100, 53);
            x.commit().due(Answer.UNSUPPORTED);
            x.crash(9, 9).due(Answer.UNSUPPORTED);
            return x;
        };
        Run.dueWholeDisk(made, valuesThatNeedMoreAnew());
    }

    @Says("or the epoch would be above 65535, the batch is refused")
    static void anEpochOf65535IsNotRefused() {
        Run x = Run.of(Image.fresh().with(UPPER + 32 * 7, 254).with(UPPER + 32 * 7 + 1, 255)).logOf(95);
        x.drops(1).commit().due(2);
        x.dueAbout(1, 65535, 1, 1, 0, 97, 1);
        x.dueBlock(96, new Image().head(1, 65535));
        x.dueBlock(97, new Image().entry(1, 1, 65535, 1, 199, 255));
    }

    @Says("or the epoch would be above 65535, the batch is refused")
    static void anEpochOf65536IsRefusedForTheOtherHalf() {
        Run x = Run.of(Image.fresh().with(UPPER + 32 * 7, 255).with(UPPER + 32 * 7 + 1, 255)).logOf(94);
        // while no log anew is needed, no epoch is
        x.drops(1).commit().due(1);
        x.drops(1).commit().due(Answer.UNSUPPORTED);
        x.crash(9, 0).due(Answer.UNSUPPORTED);
        x.dueAbout(0, 1, 95, 95, 0, 95, 0, 1, 0);
        x.spoil(UPPER + 32 * 7, 254);
        x.commit().due(2);
        x.about(1).due(65535);
    }

    @Says("or the epoch would be above 65535, the batch is refused")
    static void anEpochOf65536IsRefusedForTheLiveHalf() {
        Run x = Run.of(Image.fresh().head(0, 65535)).logOf(95).drops(1);
        x.commit().due(Answer.UNSUPPORTED);
        x.crash(0, 31).due(Answer.UNSUPPORTED);
        x.dueAbout(0, 65535, 95, 95, 0, 95, 0, 1, 0);
        Run y = Run.of(Image.fresh().head(0, 65534)).logOf(95).drops(1);
        y.commit().due(2);
        y.dueAbout(1, 65535, 1);
    }

    @Says("the batch is refused, and nothing is written")
    static void aBatchRefusedForItsEpochWritesNothing() {
        Image want = Image.fresh().head(0, 65535);
        Supplier<Run> made = () -> {
            Run x = Run.of(Image.fresh().head(0, 65535)).logOf(95).drops(1);
            x.commit().due(Answer.UNSUPPORTED);
            x.crash(0, 31).due(Answer.UNSUPPORTED);
            return x;
        };
        for (int number = 1; number <= 95; number++) {
            want.entry(0, number, 65535, 1, 199, 255);
        }
        Run.dueWholeDisk(made, want);
    }
}
