/** Promise 12: about. */
public final class Promise12Test {
    public static void main(String[] args) {
        Check.all(Promise12Test.class);
    }

    @Says("0 the live half, 1 its epoch")
    static void halfAndEpoch() {
        Run x = new Run();
        x.dueAbout(0, 1);
        x.logOf(95).drops(1).commit();
        x.dueAbout(1, 2);
        Run.of(Image.fresh().head(1, 65535)).dueAbout(1, 65535);
        Run.of(Image.headless()).dueAbout(0, 0);
    }

    @Says("2 how many blocks its log has, 3 how many entries")
    static void blocksAndEntries() {
        Run x = new Run();
        x.about(2).due(0);
        x.about(3).due(0);
        x.batchOfBytes(5, 53).commit();
        x.about(2).due(3);
        x.about(3).due(1);
        x.logOf(95);
        x.about(2).due(95);
        x.about(3).due(93);
        // the two values in one entry of 3 blocks, the head, and the batch
        x.drops(1).commit().due(3 + 1 + 1);
        x.about(2).due(4);
        x.about(3).due(2);
    }

    @Says("4 how many keys have a value")
    static void keysWithAValue() {
        Run x = new Run();
        x.about(4).due(0);
        x.setTo(0, 0, 0).setTo(199, 1, 1).set(0);
        x.about(4).due(0);
        x.commit();
        x.about(4).due(2);
        x.drop(0);
        x.drop(1);
        x.commit();
        x.about(4).due(1);
        x.drop(199);
        x.commit();
        x.about(4).due(0);
    }

    @Says("5 how many blocks were written in all")
    static void blocksWrittenInAll() {
        Run x = new Run();
        x.batchOfBytes(5, 27).commit();
        x.about(5).due(2);
        x.batchOfBytes(5, 53).crash(2, 0);
        x.about(5).due(4);
        x.spoil(0, 0);
        x.about(5).due(4);
        x.drops(1).crash(7, 0);
        x.about(5).due(5);
        x.drops(1).crash(0, 0);
        x.about(5).due(5);
    }

    @Says("(whole: not one that a crash tore, whatever its bytes are)")
    static void aTornBlockIsNotWritten() {
        Run x = new Run().drops(1);
        x.crash(0, 31).due(1);
        x.dueAbout(0, 1, 1, 1, 0, 0);
        x.batchOfBytes(5, 27).crash(1, 31).due(1);
        x.dueAbout(0, 1, 3, 2, 1, 1);
    }

    @Says("6 how often the log was made anew (its head written)")
    static void timesAnew() {
        Run x = new Run().logOf(95);
        x.about(6).due(0);
        x.drops(1).commit();
        x.about(6).due(1);
        x.logOf(95);
        x.about(6).due(1);
        x.drops(1).crash(1, 0).due(0);
        x.dueAbout(0, 3, 0);
        x.about(6).due(2);
    }

    @Says("6 how often the log was made anew (its head written)")
    static void aHeadThatIsLostOrTornIsNotWritten() {
        for (int bytes : new int[] {0, 3, 4, 31}) {
            Run x = new Run().logOf(95).drops(1);
            x.crash(0, bytes).due(0);
            // 4 bytes of a head are all that are not 0: it counts, but a crash tore it
            x.dueAbout(bytes >= 4 ? 1 : 0, bytes >= 4 ? 2 : 1);
            x.about(5).due(95);
            x.about(6).due(0);
        }
    }

    @Says("7 changes in the batch, 8 bytes of the value at hand")
    static void changesAndBytes() {
        Run x = new Run();
        x.about(7).due(0);
        x.about(8).due(0);
        x.drops(8).fill(40, 1);
        x.about(7).due(8);
        x.about(8).due(40);
    }

    @Says("IllegalArgumentException for another what")
    static void anotherWhat() {
        Run x = new Run();
        for (int what : new int[] {-1, 9, 10, 256, Integer.MIN_VALUE, Integer.MAX_VALUE}) {
            x.about(what).due(Answer.ILLEGAL);
        }
        x.dueAbout(0, 1, 0, 0, 0, 0, 0, 0, 0);
    }
}
