/** Promise 6: commit. When it makes the log anew or refuses is in Term3AnewTest. */
public final class Promise06Test {
    public static void main(String[] args) {
        Check.all(Promise06Test.class);
    }

    @Says("Commits the batch, which is empty then")
    static void theBatchIsEmptyThen() {
        Run x = new Run().setTo(5, 1, 9);
        x.commit().due(1);
        x.about(7).due(0);
        x.commit().due(0);
        x.drops(8).commit().due(1);
        x.set(5).due(1);
    }

    @Says("Commits the batch, which is empty then")
    static void theValueAtHandStays() {
        Run x = new Run().setTo(5, 1, 9).fill(3, 1);
        x.commit().due(1);
        x.about(8).due(3);
        x.set(6);
        x.commit();
        x.dueValue(6, 1, 2, 3);
    }

    @Says("how many blocks were written")
    static void soManyBlocksAsTheBatchTakes() {
        Run x = new Run();
        x.batchOfBytes(5, 26).commit().due(1);
        x.batchOfBytes(5, 27).commit().due(2);
        x.about(5).due(3);
    }

    @Says("how many blocks were written")
    static void theBlocksOfTheLogAnewAndItsHeadToo() {
        Run x = new Run().batchOfBytes(5, 27);
        x.commit().due(2);
        x.logOf(94).batchOfBytes(7, 52).commit().due(2 + 1 + 2);
        x.about(5).due(94 + 5);
    }

    @Says("(0 for an empty batch)")
    static void anEmptyBatchIsNotWritten() {
        Run x = new Run().fill(3, 1);
        x.commit().due(0);
        x.dueAbout(0, 1, 0, 0, 0, 0, 0, 0, 3);
        x.dueBlock(1, Image.fresh());
    }

    @Says("(0 for an empty batch)")
    static void anEmptyBatchIsNotRefused() {
        Run x = Run.of(Image.fresh().head(0, 65535)).logOf(95);
        x.commit().due(0);
        x.dueAbout(0, 65535, 95, 95, 0, 95, 0);
        x.drops(1).commit().due(Answer.UNSUPPORTED);
    }

    @Says("UnsupportedOperationException if it is refused (all stays)")
    static void aRefusedBatchStays() {
        Run x = Run.of(Image.fresh().head(0, 65535)).logOf(95).setTo(5, 2, 9).fill(3, 1);
        x.commit().due(Answer.UNSUPPORTED);
        x.commit().due(Answer.UNSUPPORTED);
        x.dueAbout(0, 65535, 95, 95, 0, 95, 0, 1, 3);
        x.dueNone(5);
        x.dueBlock(96, Image.fresh());
        x.dueBlock(97, Image.fresh());
        x.set(6).due(2);
    }
}
