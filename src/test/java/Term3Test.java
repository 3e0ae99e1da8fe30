/** Term 3: an entry's bytes and blocks. Making the log anew is in Term3AnewTest, crashes are in Term3CrashTest. */
public final class Term3Test {
    public static void main(String[] args) {
        Check.all(Term3Test.class);
    }

    @Says("a byte that tells how many changes, 1 .. 8; of each a byte for the key; a byte that tells how many bytes the value has, or 255 (dropped); these bytes")
    static void anEntrysBytes() {
        Run x = new Run();
        x.setTo(199, 2, 250).set(0);
        x.drop(7);
        x.setTo(7, 1, 3).commit().due(1);
        x.dueBlock(1, Image.fresh().block(0, 1, 1, Image.ONLY + 12, 4, 199, 2, 250, 251, 0, 0, 7, 255, 7, 1, 3));
    }

    @Says("a byte that tells how many changes, 1 .. 8")
    static void anEntryOf1ChangeAndOf8() {
        Run x = new Run();
        x.drops(1).commit().due(1);
        x.dueDisk(32 + 6, 1, 199, 255, 0);
        x.drops(8).commit().due(1);
        x.dueDisk(64 + 6, 8, 199, 255, 199, 255, 199, 255, 199, 255, 199, 255, 199, 255, 199, 255, 199, 255, 0);
    }

    @Says("a byte that tells how many bytes the value has, or 255 (dropped)")
    static void aValueOf0AndOf40Bytes() {
        Run x = new Run();
        x.setTo(1, 0, 0).commit().due(1);
        x.dueDisk(32 + 6, 1, 1, 0, 0);
        x.setTo(2, 40, 1).commit().due(2);
        x.dueDisk(64 + 6, 1, 2, 40, 1, 2);
        x.dueDisk(96 + 6, 24, 25);
        x.dueDisk(96 + 6 + 16, 40, 0);
    }

    @Says("It goes into blocks of 26 bytes each, the last one less")
    static void entriesAtABlocksEdge() {
        dueBlocks(25, 1);
        dueBlocks(26, 1);
        dueBlocks(27, 2);
        dueBlocks(52, 2);
        dueBlocks(53, 3);
        dueBlocks(78, 3);
        dueBlocks(79, 4);
    }

    private static void dueBlocks(int bytes, int blocks) {
        Run x = new Run().batchOfBytes(1, bytes);
        x.commit().due(blocks);
        x.dueAbout(0, 1, blocks, 1, bytes > 43 ? 2 : 1, blocks);
        int first = Math.min(bytes - 3, 40);
        x.size(1).due(first);
        x.get(1, first - 1).due(first);
    }

    @Says("It goes into blocks of 26 bytes each, the last one less")
    static void theLongestEntry() {
        Run x = new Run();
        for (int key = 0; key < 8; key++) {
            x.setTo(key, 40, 10 * key);
        }
        // 1 + 8 * 42 = 337 = 12 * 26 + 25
        x.commit().due(13);
        x.dueAbout(0, 1, 13, 1, 8, 13);
        x.disk(32 * 12 + 2).due(26);
        x.disk(32 * 13 + 2).due(Image.LAST + 25);
        for (int key = 0; key < 8; key++) {
            for (int k = 0; k < 40; k++) {
                x.get(key, k).due(10 * key + k);
            }
        }
    }

    @Says("from the block behind the log on")
    static void entriesOneBehindTheOther() {
        Run x = new Run();
        x.batchOfBytes(1, 27).commit().due(2);
        x.batchOfBytes(2, 5).commit().due(1);
        x.dueBlock(3, Image.fresh().entry(0, 3, 1, 1, 2, 2, 1, 2));
        x.about(2).due(3);
    }

    @Says("from the block behind the log on")
    static void anEntryGoesOverWhatACrashLeft() {
        Run x = new Run();
        x.batchOfBytes(1, 5).commit().due(1);
        x.batchOfBytes(2, 60).crash(2, 9).due(0);
        x.batchOfBytes(3, 5).commit().due(1);
        x.dueBlock(2, Image.fresh().entry(0, 2, 1, 1, 3, 2, 1, 2));
        x.dueAbout(0, 1, 2, 2, 2, 4);
        // block 3 is a middle one of the lost entry: it does not count behind a last one
        x.disk(96 + 2).due(26);
    }
}
