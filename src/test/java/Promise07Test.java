/** Promise 7: crash. What it leaves on the disk is in Term3CrashTest. */
public final class Promise07Test {
    public static void main(String[] args) {
        Check.all(Promise07Test.class);
    }

    @Says("so many of the blocks are written, and of the next one so many bytes")
    static void theFirstAndTheLastNumberOfBytes() {
        Run x = new Run().batchOfBytes(5, 26);
        x.crash(0, 0).due(0);
        x.dueBlock(1, Image.fresh());
        x.batchOfBytes(5, 26).crash(0, 31).due(0);
        // only the last byte, 23 of the value, is not there
        x.dueDisk(32 + 29, 21, 22, 0);
        x.dueAbout(0, 1, 0, 0, 0, 0);
    }

    @Says("batch and value are empty then")
    static void batchAndValueAreEmptyThen() {
        for (int blocks = 0; blocks <= 2; blocks++) {
            Run x = new Run().setTo(5, 1, 9).fill(3, 1);
            x.crash(blocks, 2).due(blocks > 0 ? 1 : 0);
            x.about(7).due(0);
            x.about(8).due(0);
            x.commit().due(0);
            x.put(1, 8).due(1);
            x.set(6).due(1);
        }
    }

    @Says("1 if all blocks that were to be written are as they were to be, otherwise 0")
    static void allBlocksOrOneTooFew() {
        Run x = new Run();
        x.batchOfBytes(5, 27).crash(1, 0).due(0);
        x.dueAbout(0, 1, 0, 0, 0, 1);
        x.batchOfBytes(5, 27).crash(2, 0).due(1);
        x.dueAbout(0, 1, 2, 1, 1, 3);
        x.batchOfBytes(5, 27).crash(3, 31).due(1);
        x.dueAbout(0, 1, 4, 2, 1, 5);
    }

    @Says("1 if all blocks that were to be written are as they were to be, otherwise 0")
    static void aTornBlockWhoseOtherBytesAreAsTheyWereToBe() {
        // the second block has one byte of the entry: 7 bytes that are not 0
        new Run().batchOfBytes(5, 27).crash(1, 6).due(0);
        new Run().batchOfBytes(5, 27).crash(1, 7).due(1);
        new Run().batchOfBytes(5, 27).crash(0, 31).due(0);
    }

    @Says("1 if all blocks that were to be written are as they were to be, otherwise 0")
    static void aLostBlockThatIsThereFromBefore() {
        Run x = new Run().batchOfBytes(5, 27);
        x.commit().due(2);
        x.spoil(32 + 3, x.disk(32 + 3).number() + 1);
        x.about(2).due(0);
        x.batchOfBytes(5, 27).crash(0, 3).due(0);
        x.about(2).due(0);
        x.batchOfBytes(5, 27).crash(0, 4).due(1);
        x.dueAbout(0, 1, 2, 1, 1, 2);
    }

    @Says("1 if all blocks that were to be written are as they were to be, otherwise 0")
    static void theLogAnewButNotTheBatch() {
        Run x = new Run().logOf(95).drops(1);
        x.crash(1, 5).due(0);
        x.dueAbout(1, 2, 0, 0, 0, 96, 1);
        Run y = new Run().logOf(95).drops(1);
        y.crash(1, 9).due(1);
        y.dueAbout(1, 2, 1, 1, 0, 96, 1);
        // the batch's block is never torn if the head is lost
        Run z = new Run().logOf(95).drops(1);
        z.crash(0, 31).due(0);
        z.dueBlock(97, Image.fresh());
    }

    @Says("1 if all blocks that were to be written are as they were to be, otherwise 0")
    static void eachByteIsLookedAt() {
        for (int place = 0; place < 32; place++) {
            // the batch is on the disk already but for one byte, so that its block is to be written once more
            Run x = new Run().drops(1);
            x.commit().due(1);
            x.spoil(32 + place, x.disk(32 + place).number() + 1);
            x.dueAbout(0, 1, 0, 0);
            x.drops(1).crash(0, place).due(0);
            x.about(2).due(0);
            if (place < 31) {
                x.drops(1).crash(0, place + 1).due(1);
                x.about(2).due(1);
            }
            x.about(5).due(1);
        }
    }

    @Says("IllegalArgumentException if blocks is below 0")
    static void blocksBelow0() {
        Run x = new Run().drops(1);
        x.crash(-1, 0).due(Answer.ILLEGAL);
        x.crash(Integer.MIN_VALUE, 31).due(Answer.ILLEGAL);
        x.about(7).due(1);
        x.crash(0, 0).due(0);
    }

    @Says("IllegalArgumentException if .. bytes not 0 .. 31")
    static void bytesBelow0OrAbove31() {
        Run x = new Run().drops(1);
        for (int bytes : new int[] {-1, 32, 33, Integer.MIN_VALUE, Integer.MAX_VALUE}) {
            x.crash(0, bytes).due(Answer.ILLEGAL);
            x.crash(5, bytes).due(Answer.ILLEGAL);
        }
        x.about(7).due(1);
        x.dueBlock(1, Image.fresh());
        x.crash(5, 31).due(1);
    }

    @Says("UnsupportedOperationException if the batch is empty")
    static void anEmptyBatch() {
        Run x = new Run().fill(2, 1);
        x.crash(0, 0).due(Answer.UNSUPPORTED);
        x.crash(Integer.MAX_VALUE, 31).due(Answer.UNSUPPORTED);
        x.about(8).due(2);
    }

    @Says("IllegalArgumentException if blocks is below 0, or bytes not 0 .. 31")
    static void wrongNumbersWithAnEmptyOrARefusedBatch() {
        Run x = new Run();
        x.crash(-1, 0).due(Answer.ILLEGAL);
        x.crash(0, 32).due(Answer.ILLEGAL);
        Run y = Run.of(Image.fresh().head(0, 65535)).logOf(95).drops(1);
        y.crash(-1, 0).due(Answer.ILLEGAL);
        y.crash(0, 32).due(Answer.ILLEGAL);
    }

    @Says("UnsupportedOperationException if the batch .. would be refused")
    static void aRefusedBatch() {
        Run x = Run.of(Image.fresh().head(0, 65535)).logOf(95).setTo(5, 2, 9).fill(3, 1);
        x.crash(0, 0).due(Answer.UNSUPPORTED);
        x.crash(9, 31).due(Answer.UNSUPPORTED);
        x.dueAbout(0, 65535, 95, 95, 0, 95, 0, 1, 3);
        x.dueBlock(96, Image.fresh());
        x.dueBlock(97, Image.fresh());
    }
}
